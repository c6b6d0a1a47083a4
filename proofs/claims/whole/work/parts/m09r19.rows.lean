theorem r_Forest_grow_1_0 {w : ab_Wd} {d n nc ns : Nat} {I : Nat → Nat → Int32} {L : Nat → Nat → Int64} {res : ab_Re} (hT : w.1.stackTraces = false) (v2 : Int32) (hc : nc ≤ res.2.2.2.2.2.1) (hs : ns ≤ res.2.2.2.2.2.2)
    (h : ab_E w (d + 1) mt_Forest_grow 25 [.ref kx_trialNet, .ref kx_trial, .int v2, .int 0, .null] [] ((ab_up (ab_up (ab_up (ab_up I kx_trialNet 1 0) kx_trialNet 2 0) kx_trialNet 3 0) kx_trialNet 4 (I kx_trial 0)), L, ab_RR, n, nc, ns) res) : ab_E w (d + 1) mt_Forest_grow 0 [.ref kx_trialNet, .ref kx_trial, .int v2, .null, .null] [] (I, L, ab_RR, n, nc, ns) res := by
  refine ab_aload_n (i := 0) d_Forest_grow_0 rfl rfl ?_
  refine ab_iconst (v := 0) d_Forest_grow_1 rfl ?_
  refine ab_putI (ci := 2) (k := 1) d_Forest_grow_2 v_331 rfl (by decide) (by decide) rfl (Or.inl rfl) rfl rfl ?_
  refine ab_aload_n (i := 0) d_Forest_grow_5 rfl rfl ?_
  refine ab_iconst (v := 0) d_Forest_grow_6 rfl ?_
  refine ab_putI (ci := 2) (k := 2) d_Forest_grow_7 v_334 rfl (by decide) (by decide) rfl (Or.inl rfl) rfl rfl ?_
  refine ab_aload_n (i := 0) d_Forest_grow_10 rfl rfl ?_
  refine ab_iconst (v := 0) d_Forest_grow_11 rfl ?_
  refine ab_putI (ci := 2) (k := 3) d_Forest_grow_12 v_336 rfl (by decide) (by decide) rfl (Or.inl rfl) rfl rfl ?_
  refine ab_aload_n (i := 0) d_Forest_grow_15 rfl rfl ?_
  refine ab_aload_n (i := 1) d_Forest_grow_16 rfl rfl ?_
  refine ab_getI (ci := 1) (k := 0) d_Forest_grow_17 v_187 rfl (by decide) (by decide) rfl ?_
  refine ab_putI (ci := 2) (k := 4) d_Forest_grow_20 v_338 rfl (by decide) (by decide) rfl (Or.inl rfl) rfl rfl ?_
  refine ab_iconst (v := 0) d_Forest_grow_23 rfl ?_
  refine ab_istore_n (i := 3) d_Forest_grow_24 rfl (by decide) (Or.inr rfl) ?_
  exact h
theorem r_Forest_grow_1_25 {w : ab_Wd} {d n nc ns : Nat} {I : Nat → Nat → Int32} {L : Nat → Nat → Int64} {res : ab_Re} (hT : w.1.stackTraces = false) (v2 : Int32) (v3 : Int32) (hc : nc ≤ res.2.2.2.2.2.1) (hs : ns ≤ res.2.2.2.2.2.2)
    (h : ((10 ≤ v3 → (ab_E w (d + 1) mt_Forest_grow 46 [.ref kx_trialNet, .ref kx_trial, .int v2, .int 0, .null] [] (I, L, ab_RR, n, nc, ns) res)) ∧ (¬ 10 ≤ v3 → ((vp_in v3 10) ∧ ab_E w (d + 1) mt_Forest_grow 25 [.ref kx_trialNet, .ref kx_trial, .int v2, .int (v3 + 1), .null] [] ((ab_up I kx_trialNet_piece v3.toNatClampNeg v3), L, ab_RR, n, nc, ns) res)))) : ab_E w (d + 1) mt_Forest_grow 25 [.ref kx_trialNet, .ref kx_trial, .int v2, .int v3, .null] [] (I, L, ab_RR, n, nc, ns) res := by
  refine ab_iload_n (i := 3) d_Forest_grow_25 rfl rfl ?_
  refine ab_bipush (v := 10) d_Forest_grow_26 rfl ?_
  refine ab_icmp_ge (tgt := 44) d_Forest_grow_28 (by decide) (fun c1 => ?_) (fun c1 => ?_)
  · have h := h.1 c1
    refine ab_iconst (v := 0) d_Forest_grow_44 rfl ?_
    refine ab_istore_n (i := 3) d_Forest_grow_45 rfl (by decide) (Or.inr rfl) ?_
    exact h
  · have h := h.2 c1
    refine ab_aload_n (i := 0) d_Forest_grow_31 rfl rfl ?_
    refine ab_getR (ci := 2) (k := 5) (j := kx_trialNet_piece) d_Forest_grow_32 v_340 rfl (by decide) (by decide) rfl r_kx_trialNet_5 ?_
    refine ab_iload_n (i := 3) d_Forest_grow_35 rfl rfl ?_
    refine ab_iload_n (i := 3) d_Forest_grow_36 rfl rfl ?_
    have g2 := h.1; have h := h.2
    refine ab_iast d_Forest_grow_37 rfl rfl g2 ?_
    refine ab_iinc (i := 3) (v := (v3 + 1)) d_Forest_grow_38 rfl rfl (by decide) (Or.inr rfl) ?_
    refine ab_goto (tgt := 25) d_Forest_grow_41 (by decide) ?_
    exact h
theorem r_Forest_grow_1_46 {w : ab_Wd} {d n nc ns : Nat} {I : Nat → Nat → Int32} {L : Nat → Nat → Int64} {res : ab_Re} (hT : w.1.stackTraces = false) (v2 : Int32) (v3 : Int32) (hc : nc ≤ res.2.2.2.2.2.1) (hs : ns ≤ res.2.2.2.2.2.2)
    (h : (((I kx_trial 1) ≤ v3 → (res = (.inl none, (I, L, ab_RR, n, nc, ns)))) ∧ (¬ (I kx_trial 1) ≤ v3 → ((9 ≤ (I kx_trialNet 1) → (res = (.inl none, (I, L, ab_RR, n, nc, ns)))) ∧ (¬ 9 ≤ (I kx_trialNet 1) → ((vp_in v3 24) ∧ ((¬ ((v2 >>> ((I kx_trial_order v3.toNatClampNeg) &&& 31)) &&& 1) = 1 → (ab_E w (d + 1) mt_Forest_grow 46 [.ref kx_trialNet, .ref kx_trial, .int v2, .int (v3 + 1), .null] [] (I, L, ab_RR, n, nc, ns) res)) ∧ (((v2 >>> ((I kx_trial_order v3.toNatClampNeg) &&& 31)) &&& 1) = 1 → ((vp_in (I kx_trial_order v3.toNatClampNeg) 24) ∧ ∃ (r6 : Int32) (I7 : Nat → Nat → Int32), ab_C w d mt_K_unite [.ref kx_trialNet_piece, .int (I kx_trial_first (I kx_trial_order v3.toNatClampNeg).toNatClampNeg), .int (I kx_trial_second (I kx_trial_order v3.toNatClampNeg).toNatClampNeg)] (I, L, ab_RR, n, nc, ns) (.inl (some (.int r6)), (I7, L, ab_RR, n, nc, ns)) ∧ ((r6 = 0 → (ab_E w (d + 1) mt_Forest_grow 46 [.ref kx_trialNet, .ref kx_trial, .int v2, .int (v3 + 1), .null] [] (I7, L, ab_RR, n, nc, ns) res)) ∧ (¬ r6 = 0 → ((vp_in (I7 kx_trialNet 1) 9) ∧ ab_E w (d + 1) mt_Forest_grow 46 [.ref kx_trialNet, .ref kx_trial, .int v2, .int (v3 + 1), .null] [] ((ab_up (ab_up (ab_up (ab_up (ab_up I7 kx_trialNet_order (I7 kx_trialNet 1).toNatClampNeg (I kx_trial_order v3.toNatClampNeg)) kx_trialNet 1 ((I7 kx_trialNet 1) + 1)) kx_trialNet 2 ((I7 kx_trialNet 2) ||| ((1 : Int32) <<< ((I kx_trial_order v3.toNatClampNeg) &&& 31)))) kx_trialNet 3 ((I7 kx_trialNet 3) + (I7 kx_trial_price (I kx_trial_order v3.toNatClampNeg).toNatClampNeg))) kx_trialNet 4 ((I7 kx_trialNet 4) - 1)), L, ab_RR, n, nc, ns) res)))))))))))) : ab_E w (d + 1) mt_Forest_grow 46 [.ref kx_trialNet, .ref kx_trial, .int v2, .int v3, .null] [] (I, L, ab_RR, n, nc, ns) res := by
  refine ab_iload_n (i := 3) d_Forest_grow_46 rfl rfl ?_
  refine ab_aload_n (i := 1) d_Forest_grow_47 rfl rfl ?_
  refine ab_getI (ci := 1) (k := 1) d_Forest_grow_48 v_195 rfl (by decide) (by decide) rfl ?_
  refine ab_icmp_ge (tgt := 174) d_Forest_grow_51 (by decide) (fun c1 => ?_) (fun c1 => ?_)
  · have h := h.1 c1
    exact ab_vret d_Forest_grow_174 rfl h
  · have h := h.2 c1
    refine ab_aload_n (i := 0) d_Forest_grow_54 rfl rfl ?_
    refine ab_getI (ci := 2) (k := 1) d_Forest_grow_55 v_331 rfl (by decide) (by decide) rfl ?_
    refine ab_aload_n (i := 0) d_Forest_grow_58 rfl rfl ?_
    refine ab_getR (ci := 2) (k := 0) (j := kx_trialNet_order) d_Forest_grow_59 v_328 rfl (by decide) (by decide) rfl r_kx_trialNet_0 ?_
    refine ab_alen (v := 9) d_Forest_grow_62 (by decide) (by decide) rfl ?_
    refine ab_icmp_ge (tgt := 174) d_Forest_grow_63 (by decide) (fun c2 => ?_) (fun c2 => ?_)
    · have h := h.1 c2
      exact ab_vret d_Forest_grow_174 rfl h
    · have h := h.2 c2
      refine ab_aload_n (i := 1) d_Forest_grow_66 rfl rfl ?_
      refine ab_getR (ci := 1) (k := 7) (j := kx_trial_order) d_Forest_grow_67 v_231 rfl (by decide) (by decide) rfl r_kx_trial_7 ?_
      refine ab_iload_n (i := 3) d_Forest_grow_70 rfl rfl ?_
      have g3 := h.1; have h := h.2
      refine ab_iald d_Forest_grow_71 rfl rfl g3 ?_
      refine ab_istore (i := 4) d_Forest_grow_72 (by decide) (Or.inr rfl) ?_
      refine ab_iload_n (i := 2) d_Forest_grow_74 rfl rfl ?_
      refine ab_iload (i := 4) d_Forest_grow_75 rfl ?_
      refine ab_ishr d_Forest_grow_77 ?_
      refine ab_iconst (v := 1) d_Forest_grow_78 rfl ?_
      refine ab_iand d_Forest_grow_79 ?_
      refine ab_iconst (v := 1) d_Forest_grow_80 rfl ?_
      refine ab_icmp_ne (tgt := 168) d_Forest_grow_81 (by decide) (fun c4 => ?_) (fun c4 => ?_)
      · have h := h.1 c4
        refine ab_iinc (i := 3) (v := (v3 + 1)) d_Forest_grow_168 rfl rfl (by decide) (Or.inr rfl) ?_
        refine ab_goto (tgt := 46) d_Forest_grow_171 (by decide) ?_
        refine ab_drop 4 ?_
        exact h
      · have h := h.2 c4
        refine ab_aload_n (i := 0) d_Forest_grow_84 rfl rfl ?_
        refine ab_getR (ci := 2) (k := 5) (j := kx_trialNet_piece) d_Forest_grow_85 v_340 rfl (by decide) (by decide) rfl r_kx_trialNet_5 ?_
        refine ab_aload_n (i := 1) d_Forest_grow_88 rfl rfl ?_
        refine ab_getR (ci := 1) (k := 3) (j := kx_trial_first) d_Forest_grow_89 v_207 rfl (by decide) (by decide) rfl r_kx_trial_3 ?_
        refine ab_iload (i := 4) d_Forest_grow_92 rfl ?_
        have g5 := h.1; have h := h.2
        refine ab_iald d_Forest_grow_94 rfl rfl g5 ?_
        refine ab_aload_n (i := 1) d_Forest_grow_95 rfl rfl ?_
        refine ab_getR (ci := 1) (k := 4) (j := kx_trial_second) d_Forest_grow_96 v_214 rfl (by decide) (by decide) rfl r_kx_trial_4 ?_
        refine ab_iload (i := 4) d_Forest_grow_99 rfl ?_
        refine ab_iald d_Forest_grow_101 rfl rfl g5 ?_
        obtain ⟨r6, I7, hC, h⟩ := h
        refine ab_callS (me2 := mt_K_unite) (as := [.ref kx_trialNet_piece, .int (I kx_trial_first (I kx_trial_order v3.toNatClampNeg).toNatClampNeg), .int (I kx_trial_second (I kx_trial_order v3.toNatClampNeg).toNatClampNeg)]) (st := []) (rv := (some (.int r6))) (M2 := (I7, L, ab_RR, n, nc, ns)) d_Forest_grow_102 ce_K_unite ⟨v_445, Or.inr ⟨_, u_444⟩⟩ (Nat.le_of_ble_eq_true rfl) hC (Nat.le_refl _) (Nat.le_refl _) hc hs (fun j h9 => by cases h9) (fun _ _ => rfl) ?_
        show ab_E w (d + 1) mt_Forest_grow 105 [.ref kx_trialNet, .ref kx_trial, .int v2, .int v3, .int (I kx_trial_order v3.toNatClampNeg)] [.int r6] (I7, L, ab_RR, n, nc, ns) res
        refine ab_if_eq (tgt := 168) d_Forest_grow_105 (by decide) (fun c8 => ?_) (fun c8 => ?_)
        · have h := h.1 c8
          refine ab_iinc (i := 3) (v := (v3 + 1)) d_Forest_grow_168 rfl rfl (by decide) (Or.inr rfl) ?_
          refine ab_goto (tgt := 46) d_Forest_grow_171 (by decide) ?_
          refine ab_drop 4 ?_
          exact h
        · have h := h.2 c8
          refine ab_aload_n (i := 0) d_Forest_grow_108 rfl rfl ?_
          refine ab_getR (ci := 2) (k := 0) (j := kx_trialNet_order) d_Forest_grow_109 v_328 rfl (by decide) (by decide) rfl r_kx_trialNet_0 ?_
          refine ab_aload_n (i := 0) d_Forest_grow_112 rfl rfl ?_
          refine ab_getI (ci := 2) (k := 1) d_Forest_grow_113 v_331 rfl (by decide) (by decide) rfl ?_
          refine ab_iload (i := 4) d_Forest_grow_116 rfl ?_
          have g9 := h.1; have h := h.2
          refine ab_iast d_Forest_grow_118 rfl rfl g9 ?_
          refine ab_aload_n (i := 0) d_Forest_grow_119 rfl rfl ?_
          refine ab_dupr d_Forest_grow_120 ?_
          refine ab_getI (ci := 2) (k := 1) d_Forest_grow_121 v_331 rfl (by decide) (by decide) rfl ?_
          refine ab_iconst (v := 1) d_Forest_grow_124 rfl ?_
          refine ab_iadd d_Forest_grow_125 ?_
          refine ab_putI (ci := 2) (k := 1) d_Forest_grow_126 v_331 rfl (by decide) (by decide) rfl (Or.inl rfl) rfl rfl ?_
          refine ab_aload_n (i := 0) d_Forest_grow_129 rfl rfl ?_
          refine ab_dupr d_Forest_grow_130 ?_
          refine ab_getI (ci := 2) (k := 2) d_Forest_grow_131 v_334 rfl (by decide) (by decide) rfl ?_
          refine ab_iconst (v := 1) d_Forest_grow_134 rfl ?_
          refine ab_iload (i := 4) d_Forest_grow_135 rfl ?_
          refine ab_ishl d_Forest_grow_137 ?_
          refine ab_ior d_Forest_grow_138 ?_
          refine ab_putI (ci := 2) (k := 2) d_Forest_grow_139 v_334 rfl (by decide) (by decide) rfl (Or.inl rfl) rfl rfl ?_
          refine ab_aload_n (i := 0) d_Forest_grow_142 rfl rfl ?_
          refine ab_dupr d_Forest_grow_143 ?_
          refine ab_getI (ci := 2) (k := 3) d_Forest_grow_144 v_336 rfl (by decide) (by decide) rfl ?_
          refine ab_aload_n (i := 1) d_Forest_grow_147 rfl rfl ?_
          refine ab_getR (ci := 1) (k := 5) (j := kx_trial_price) d_Forest_grow_148 v_221 rfl (by decide) (by decide) rfl r_kx_trial_5 ?_
          refine ab_iload (i := 4) d_Forest_grow_151 rfl ?_
          refine ab_iald d_Forest_grow_153 rfl rfl g5 ?_
          refine ab_iadd d_Forest_grow_154 ?_
          refine ab_putI (ci := 2) (k := 3) d_Forest_grow_155 v_336 rfl (by decide) (by decide) rfl (Or.inl rfl) rfl rfl ?_
          refine ab_aload_n (i := 0) d_Forest_grow_158 rfl rfl ?_
          refine ab_dupr d_Forest_grow_159 ?_
          refine ab_getI (ci := 2) (k := 4) d_Forest_grow_160 v_338 rfl (by decide) (by decide) rfl ?_
          refine ab_iconst (v := 1) d_Forest_grow_163 rfl ?_
          refine ab_isub d_Forest_grow_164 ?_
          refine ab_putI (ci := 2) (k := 4) d_Forest_grow_165 v_338 rfl (by decide) (by decide) rfl (Or.inl rfl) rfl rfl ?_
          refine ab_iinc (i := 3) (v := (v3 + 1)) d_Forest_grow_168 rfl rfl (by decide) (Or.inr rfl) ?_
          refine ab_goto (tgt := 46) d_Forest_grow_171 (by decide) ?_
          refine ab_drop 4 ?_
          exact h
theorem r_State_copy_0_0 {w : ab_Wd} {d n nc ns : Nat} {I : Nat → Nat → Int32} {L : Nat → Nat → Int64} {res : ab_Re} (hT : w.1.stackTraces = false)  (hc : nc ≤ res.2.2.2.2.2.1) (hs : ns ≤ res.2.2.2.2.2.2)
    (h : ∃ (I2 : Nat → Nat → Int32), ab_C w d mt_Cables_copy [.ref kx_kept_cables, .ref kx_now_cables] (I, L, ab_RR, n, nc, ns) (.inl none, (I2, L, ab_RR, n, nc, ns)) ∧ ∃ (I4 : Nat → Nat → Int32), ab_C w d mt_Swaps_copy [.ref kx_kept_swaps, .ref kx_now_swaps] (I2, L, ab_RR, n, nc, ns) (.inl none, (I4, L, ab_RR, n, nc, ns)) ∧ ∃ (I6 : Nat → Nat → Int32), ab_C w d mt_Acts_copy [.ref kx_kept_acts, .ref kx_now_acts] (I4, L, ab_RR, n, nc, ns) (.inl none, (I6, L, ab_RR, n, nc, ns)) ∧ res = (.inl none, ((ab_row (ab_up (ab_up (ab_up I6 kx_kept 3 (I6 kx_now 3)) kx_kept 4 (I6 kx_now 4)) kx_kept 5 (I6 kx_now 5)) kx_kept_refused (va_cpy (I6 kx_now_refused) (I6 kx_kept_refused) 0 0 3)), L, ab_RR, n, nc, ns))) : ab_E w (d + 1) mt_State_copy 0 [.ref kx_kept, .ref kx_now] [] (I, L, ab_RR, n, nc, ns) res := by
  refine ab_aload_n (i := 0) d_State_copy_0 rfl rfl ?_
  refine ab_getR (ci := 6) (k := 0) (j := kx_kept_cables) d_State_copy_1 v_293 rfl (by decide) (by decide) rfl r_kx_kept_0 ?_
  refine ab_aload_n (i := 1) d_State_copy_4 rfl rfl ?_
  refine ab_getR (ci := 6) (k := 0) (j := kx_now_cables) d_State_copy_5 v_293 rfl (by decide) (by decide) rfl r_kx_now_0 ?_
  obtain ⟨I2, hC, h⟩ := h
  refine ab_callV (me2 := mt_Cables_copy) (b := kx_kept_cables) (as := [.ref kx_now_cables]) (st := []) (rv := none) (M2 := (I2, L, ab_RR, n, nc, ns)) d_State_copy_8 ce_Cables_copy v_671 v_672 v_673 (by decide) rfl (Nat.le_of_ble_eq_true rfl) hC (Nat.le_refl _) (Nat.le_refl _) hc hs (fun j h9 => by cases h9) (fun _ _ => rfl) ?_
  show ab_E w (d + 1) mt_State_copy 11 [.ref kx_kept, .ref kx_now] [] (I2, L, ab_RR, n, nc, ns) res
  refine ab_aload_n (i := 0) d_State_copy_11 rfl rfl ?_
  refine ab_getR (ci := 6) (k := 1) (j := kx_kept_swaps) d_State_copy_12 v_295 rfl (by decide) (by decide) rfl r_kx_kept_1 ?_
  refine ab_aload_n (i := 1) d_State_copy_15 rfl rfl ?_
  refine ab_getR (ci := 6) (k := 1) (j := kx_now_swaps) d_State_copy_16 v_295 rfl (by decide) (by decide) rfl r_kx_now_1 ?_
  obtain ⟨I4, hC, h⟩ := h
  refine ab_callV (me2 := mt_Swaps_copy) (b := kx_kept_swaps) (as := [.ref kx_now_swaps]) (st := []) (rv := none) (M2 := (I4, L, ab_RR, n, nc, ns)) d_State_copy_19 ce_Swaps_copy v_676 v_677 v_678 (by decide) rfl (Nat.le_of_ble_eq_true rfl) hC (Nat.le_refl _) (Nat.le_refl _) hc hs (fun j h9 => by cases h9) (fun _ _ => rfl) ?_
  show ab_E w (d + 1) mt_State_copy 22 [.ref kx_kept, .ref kx_now] [] (I4, L, ab_RR, n, nc, ns) res
  refine ab_aload_n (i := 0) d_State_copy_22 rfl rfl ?_
  refine ab_getR (ci := 6) (k := 2) (j := kx_kept_acts) d_State_copy_23 v_297 rfl (by decide) (by decide) rfl r_kx_kept_2 ?_
  refine ab_aload_n (i := 1) d_State_copy_26 rfl rfl ?_
  refine ab_getR (ci := 6) (k := 2) (j := kx_now_acts) d_State_copy_27 v_297 rfl (by decide) (by decide) rfl r_kx_now_2 ?_
  obtain ⟨I6, hC, h⟩ := h
  refine ab_callV (me2 := mt_Acts_copy) (b := kx_kept_acts) (as := [.ref kx_now_acts]) (st := []) (rv := none) (M2 := (I6, L, ab_RR, n, nc, ns)) d_State_copy_30 ce_Acts_copy v_681 v_682 v_683 (by decide) rfl (Nat.le_of_ble_eq_true rfl) hC (Nat.le_refl _) (Nat.le_refl _) hc hs (fun j h9 => by cases h9) (fun _ _ => rfl) ?_
  show ab_E w (d + 1) mt_State_copy 33 [.ref kx_kept, .ref kx_now] [] (I6, L, ab_RR, n, nc, ns) res
  refine ab_aload_n (i := 0) d_State_copy_33 rfl rfl ?_
  refine ab_aload_n (i := 1) d_State_copy_34 rfl rfl ?_
  refine ab_getI (ci := 6) (k := 3) d_State_copy_35 v_299 rfl (by decide) (by decide) rfl ?_
  refine ab_putI (ci := 6) (k := 3) d_State_copy_38 v_299 rfl (by decide) (by decide) rfl (Or.inl rfl) rfl rfl ?_
  refine ab_aload_n (i := 0) d_State_copy_41 rfl rfl ?_
  refine ab_aload_n (i := 1) d_State_copy_42 rfl rfl ?_
  refine ab_getI (ci := 6) (k := 4) d_State_copy_43 v_301 rfl (by decide) (by decide) rfl ?_
  refine ab_putI (ci := 6) (k := 4) d_State_copy_46 v_301 rfl (by decide) (by decide) rfl (Or.inl rfl) rfl rfl ?_
  refine ab_aload_n (i := 0) d_State_copy_49 rfl rfl ?_
  refine ab_aload_n (i := 1) d_State_copy_50 rfl rfl ?_
  refine ab_getI (ci := 6) (k := 5) d_State_copy_51 v_303 rfl (by decide) (by decide) rfl ?_
  refine ab_putI (ci := 6) (k := 5) d_State_copy_54 v_303 rfl (by decide) (by decide) rfl (Or.inl rfl) rfl rfl ?_
  refine ab_aload_n (i := 1) d_State_copy_57 rfl rfl ?_
  refine ab_getR (ci := 6) (k := 6) (j := kx_now_refused) d_State_copy_58 v_305 rfl (by decide) (by decide) rfl r_kx_now_6 ?_
  refine ab_iconst (v := 0) d_State_copy_61 rfl ?_
  refine ab_aload_n (i := 0) d_State_copy_62 rfl rfl ?_
  refine ab_getR (ci := 6) (k := 6) (j := kx_kept_refused) d_State_copy_63 v_305 rfl (by decide) (by decide) rfl r_kx_kept_6 ?_
  refine ab_iconst (v := 0) d_State_copy_66 rfl ?_
  refine ab_aload_n (i := 0) d_State_copy_67 rfl rfl ?_
  refine ab_getR (ci := 6) (k := 6) (j := kx_kept_refused) d_State_copy_68 v_305 rfl (by decide) (by decide) rfl r_kx_kept_6 ?_
  refine ab_alen (v := 3) d_State_copy_71 (by decide) (by decide) rfl ?_
  refine ab_copy d_State_copy_72 v_685 v_562 v_561 v_161 rfl rfl rfl rfl (by decide) (by decide) (by decide) (by decide) (by decide) (Nat.succ_le_succ (Nat.zero_le _)) (Nat.le_of_ble_eq_true rfl) ?_
  exact ab_vret d_State_copy_75 rfl h
theorem r_State_copy_1_0 {w : ab_Wd} {d n nc ns : Nat} {I : Nat → Nat → Int32} {L : Nat → Nat → Int64} {res : ab_Re} (hT : w.1.stackTraces = false)  (hc : nc ≤ res.2.2.2.2.2.1) (hs : ns ≤ res.2.2.2.2.2.2)
    (h : ∃ (I2 : Nat → Nat → Int32), ab_C w d mt_Cables_copy [.ref kx_now_cables, .ref kx_kept_cables] (I, L, ab_RR, n, nc, ns) (.inl none, (I2, L, ab_RR, n, nc, ns)) ∧ ∃ (I4 : Nat → Nat → Int32), ab_C w d mt_Swaps_copy [.ref kx_now_swaps, .ref kx_kept_swaps] (I2, L, ab_RR, n, nc, ns) (.inl none, (I4, L, ab_RR, n, nc, ns)) ∧ ∃ (I6 : Nat → Nat → Int32), ab_C w d mt_Acts_copy [.ref kx_now_acts, .ref kx_kept_acts] (I4, L, ab_RR, n, nc, ns) (.inl none, (I6, L, ab_RR, n, nc, ns)) ∧ res = (.inl none, ((ab_row (ab_up (ab_up (ab_up I6 kx_now 3 (I6 kx_kept 3)) kx_now 4 (I6 kx_kept 4)) kx_now 5 (I6 kx_kept 5)) kx_now_refused (va_cpy (I6 kx_kept_refused) (I6 kx_now_refused) 0 0 3)), L, ab_RR, n, nc, ns))) : ab_E w (d + 1) mt_State_copy 0 [.ref kx_now, .ref kx_kept] [] (I, L, ab_RR, n, nc, ns) res := by
  refine ab_aload_n (i := 0) d_State_copy_0 rfl rfl ?_
  refine ab_getR (ci := 6) (k := 0) (j := kx_now_cables) d_State_copy_1 v_293 rfl (by decide) (by decide) rfl r_kx_now_0 ?_
  refine ab_aload_n (i := 1) d_State_copy_4 rfl rfl ?_
  refine ab_getR (ci := 6) (k := 0) (j := kx_kept_cables) d_State_copy_5 v_293 rfl (by decide) (by decide) rfl r_kx_kept_0 ?_
  obtain ⟨I2, hC, h⟩ := h
  refine ab_callV (me2 := mt_Cables_copy) (b := kx_now_cables) (as := [.ref kx_kept_cables]) (st := []) (rv := none) (M2 := (I2, L, ab_RR, n, nc, ns)) d_State_copy_8 ce_Cables_copy v_671 v_672 v_673 (by decide) rfl (Nat.le_of_ble_eq_true rfl) hC (Nat.le_refl _) (Nat.le_refl _) hc hs (fun j h9 => by cases h9) (fun _ _ => rfl) ?_
  show ab_E w (d + 1) mt_State_copy 11 [.ref kx_now, .ref kx_kept] [] (I2, L, ab_RR, n, nc, ns) res
  refine ab_aload_n (i := 0) d_State_copy_11 rfl rfl ?_
  refine ab_getR (ci := 6) (k := 1) (j := kx_now_swaps) d_State_copy_12 v_295 rfl (by decide) (by decide) rfl r_kx_now_1 ?_
  refine ab_aload_n (i := 1) d_State_copy_15 rfl rfl ?_
  refine ab_getR (ci := 6) (k := 1) (j := kx_kept_swaps) d_State_copy_16 v_295 rfl (by decide) (by decide) rfl r_kx_kept_1 ?_
  obtain ⟨I4, hC, h⟩ := h
  refine ab_callV (me2 := mt_Swaps_copy) (b := kx_now_swaps) (as := [.ref kx_kept_swaps]) (st := []) (rv := none) (M2 := (I4, L, ab_RR, n, nc, ns)) d_State_copy_19 ce_Swaps_copy v_676 v_677 v_678 (by decide) rfl (Nat.le_of_ble_eq_true rfl) hC (Nat.le_refl _) (Nat.le_refl _) hc hs (fun j h9 => by cases h9) (fun _ _ => rfl) ?_
  show ab_E w (d + 1) mt_State_copy 22 [.ref kx_now, .ref kx_kept] [] (I4, L, ab_RR, n, nc, ns) res
  refine ab_aload_n (i := 0) d_State_copy_22 rfl rfl ?_
  refine ab_getR (ci := 6) (k := 2) (j := kx_now_acts) d_State_copy_23 v_297 rfl (by decide) (by decide) rfl r_kx_now_2 ?_
  refine ab_aload_n (i := 1) d_State_copy_26 rfl rfl ?_
  refine ab_getR (ci := 6) (k := 2) (j := kx_kept_acts) d_State_copy_27 v_297 rfl (by decide) (by decide) rfl r_kx_kept_2 ?_
  obtain ⟨I6, hC, h⟩ := h
  refine ab_callV (me2 := mt_Acts_copy) (b := kx_now_acts) (as := [.ref kx_kept_acts]) (st := []) (rv := none) (M2 := (I6, L, ab_RR, n, nc, ns)) d_State_copy_30 ce_Acts_copy v_681 v_682 v_683 (by decide) rfl (Nat.le_of_ble_eq_true rfl) hC (Nat.le_refl _) (Nat.le_refl _) hc hs (fun j h9 => by cases h9) (fun _ _ => rfl) ?_
  show ab_E w (d + 1) mt_State_copy 33 [.ref kx_now, .ref kx_kept] [] (I6, L, ab_RR, n, nc, ns) res
  refine ab_aload_n (i := 0) d_State_copy_33 rfl rfl ?_
  refine ab_aload_n (i := 1) d_State_copy_34 rfl rfl ?_
  refine ab_getI (ci := 6) (k := 3) d_State_copy_35 v_299 rfl (by decide) (by decide) rfl ?_
  refine ab_putI (ci := 6) (k := 3) d_State_copy_38 v_299 rfl (by decide) (by decide) rfl (Or.inl rfl) rfl rfl ?_
  refine ab_aload_n (i := 0) d_State_copy_41 rfl rfl ?_
  refine ab_aload_n (i := 1) d_State_copy_42 rfl rfl ?_
  refine ab_getI (ci := 6) (k := 4) d_State_copy_43 v_301 rfl (by decide) (by decide) rfl ?_
  refine ab_putI (ci := 6) (k := 4) d_State_copy_46 v_301 rfl (by decide) (by decide) rfl (Or.inl rfl) rfl rfl ?_
  refine ab_aload_n (i := 0) d_State_copy_49 rfl rfl ?_
  refine ab_aload_n (i := 1) d_State_copy_50 rfl rfl ?_
  refine ab_getI (ci := 6) (k := 5) d_State_copy_51 v_303 rfl (by decide) (by decide) rfl ?_
  refine ab_putI (ci := 6) (k := 5) d_State_copy_54 v_303 rfl (by decide) (by decide) rfl (Or.inl rfl) rfl rfl ?_
  refine ab_aload_n (i := 1) d_State_copy_57 rfl rfl ?_
  refine ab_getR (ci := 6) (k := 6) (j := kx_kept_refused) d_State_copy_58 v_305 rfl (by decide) (by decide) rfl r_kx_kept_6 ?_
  refine ab_iconst (v := 0) d_State_copy_61 rfl ?_
  refine ab_aload_n (i := 0) d_State_copy_62 rfl rfl ?_
  refine ab_getR (ci := 6) (k := 6) (j := kx_now_refused) d_State_copy_63 v_305 rfl (by decide) (by decide) rfl r_kx_now_6 ?_
  refine ab_iconst (v := 0) d_State_copy_66 rfl ?_
  refine ab_aload_n (i := 0) d_State_copy_67 rfl rfl ?_
  refine ab_getR (ci := 6) (k := 6) (j := kx_now_refused) d_State_copy_68 v_305 rfl (by decide) (by decide) rfl r_kx_now_6 ?_
  refine ab_alen (v := 3) d_State_copy_71 (by decide) (by decide) rfl ?_
  refine ab_copy d_State_copy_72 v_685 v_562 v_561 v_161 rfl rfl rfl rfl (by decide) (by decide) (by decide) (by decide) (by decide) (Nat.succ_le_succ (Nat.zero_le _)) (Nat.le_of_ble_eq_true rfl) ?_
  exact ab_vret d_State_copy_75 rfl h
theorem r_Forest_grow_2_0 {w : ab_Wd} {d n nc ns : Nat} {I : Nat → Nat → Int32} {L : Nat → Nat → Int64} {res : ab_Re} (hT : w.1.stackTraces = false) (v2 : Int32) (hc : nc ≤ res.2.2.2.2.2.1) (hs : ns ≤ res.2.2.2.2.2.2)
    (h : ab_E w (d + 1) mt_Forest_grow 25 [.ref kx_forest, .ref kx_now_cables, .int v2, .int 0, .null] [] ((ab_up (ab_up (ab_up (ab_up I kx_forest 1 0) kx_forest 2 0) kx_forest 3 0) kx_forest 4 (I kx_now_cables 0)), L, ab_RR, n, nc, ns) res) : ab_E w (d + 1) mt_Forest_grow 0 [.ref kx_forest, .ref kx_now_cables, .int v2, .null, .null] [] (I, L, ab_RR, n, nc, ns) res := by
  refine ab_aload_n (i := 0) d_Forest_grow_0 rfl rfl ?_
  refine ab_iconst (v := 0) d_Forest_grow_1 rfl ?_
  refine ab_putI (ci := 2) (k := 1) d_Forest_grow_2 v_331 rfl (by decide) (by decide) rfl (Or.inl rfl) rfl rfl ?_
  refine ab_aload_n (i := 0) d_Forest_grow_5 rfl rfl ?_
  refine ab_iconst (v := 0) d_Forest_grow_6 rfl ?_
  refine ab_putI (ci := 2) (k := 2) d_Forest_grow_7 v_334 rfl (by decide) (by decide) rfl (Or.inl rfl) rfl rfl ?_
  refine ab_aload_n (i := 0) d_Forest_grow_10 rfl rfl ?_
  refine ab_iconst (v := 0) d_Forest_grow_11 rfl ?_
  refine ab_putI (ci := 2) (k := 3) d_Forest_grow_12 v_336 rfl (by decide) (by decide) rfl (Or.inl rfl) rfl rfl ?_
  refine ab_aload_n (i := 0) d_Forest_grow_15 rfl rfl ?_
  refine ab_aload_n (i := 1) d_Forest_grow_16 rfl rfl ?_
  refine ab_getI (ci := 1) (k := 0) d_Forest_grow_17 v_187 rfl (by decide) (by decide) rfl ?_
  refine ab_putI (ci := 2) (k := 4) d_Forest_grow_20 v_338 rfl (by decide) (by decide) rfl (Or.inl rfl) rfl rfl ?_
  refine ab_iconst (v := 0) d_Forest_grow_23 rfl ?_
  refine ab_istore_n (i := 3) d_Forest_grow_24 rfl (by decide) (Or.inr rfl) ?_
  exact h
theorem r_Forest_grow_2_25 {w : ab_Wd} {d n nc ns : Nat} {I : Nat → Nat → Int32} {L : Nat → Nat → Int64} {res : ab_Re} (hT : w.1.stackTraces = false) (v2 : Int32) (v3 : Int32) (hc : nc ≤ res.2.2.2.2.2.1) (hs : ns ≤ res.2.2.2.2.2.2)
    (h : ((10 ≤ v3 → (ab_E w (d + 1) mt_Forest_grow 46 [.ref kx_forest, .ref kx_now_cables, .int v2, .int 0, .null] [] (I, L, ab_RR, n, nc, ns) res)) ∧ (¬ 10 ≤ v3 → ((vp_in v3 10) ∧ ab_E w (d + 1) mt_Forest_grow 25 [.ref kx_forest, .ref kx_now_cables, .int v2, .int (v3 + 1), .null] [] ((ab_up I kx_forest_piece v3.toNatClampNeg v3), L, ab_RR, n, nc, ns) res)))) : ab_E w (d + 1) mt_Forest_grow 25 [.ref kx_forest, .ref kx_now_cables, .int v2, .int v3, .null] [] (I, L, ab_RR, n, nc, ns) res := by
  refine ab_iload_n (i := 3) d_Forest_grow_25 rfl rfl ?_
  refine ab_bipush (v := 10) d_Forest_grow_26 rfl ?_
  refine ab_icmp_ge (tgt := 44) d_Forest_grow_28 (by decide) (fun c1 => ?_) (fun c1 => ?_)
  · have h := h.1 c1
    refine ab_iconst (v := 0) d_Forest_grow_44 rfl ?_
    refine ab_istore_n (i := 3) d_Forest_grow_45 rfl (by decide) (Or.inr rfl) ?_
    exact h
  · have h := h.2 c1
    refine ab_aload_n (i := 0) d_Forest_grow_31 rfl rfl ?_
    refine ab_getR (ci := 2) (k := 5) (j := kx_forest_piece) d_Forest_grow_32 v_340 rfl (by decide) (by decide) rfl r_kx_forest_5 ?_
    refine ab_iload_n (i := 3) d_Forest_grow_35 rfl rfl ?_
    refine ab_iload_n (i := 3) d_Forest_grow_36 rfl rfl ?_
    have g2 := h.1; have h := h.2
    refine ab_iast d_Forest_grow_37 rfl rfl g2 ?_
    refine ab_iinc (i := 3) (v := (v3 + 1)) d_Forest_grow_38 rfl rfl (by decide) (Or.inr rfl) ?_
    refine ab_goto (tgt := 25) d_Forest_grow_41 (by decide) ?_
    exact h
theorem r_Forest_grow_2_46 {w : ab_Wd} {d n nc ns : Nat} {I : Nat → Nat → Int32} {L : Nat → Nat → Int64} {res : ab_Re} (hT : w.1.stackTraces = false) (v2 : Int32) (v3 : Int32) (hc : nc ≤ res.2.2.2.2.2.1) (hs : ns ≤ res.2.2.2.2.2.2)
    (h : (((I kx_now_cables 1) ≤ v3 → (res = (.inl none, (I, L, ab_RR, n, nc, ns)))) ∧ (¬ (I kx_now_cables 1) ≤ v3 → ((9 ≤ (I kx_forest 1) → (res = (.inl none, (I, L, ab_RR, n, nc, ns)))) ∧ (¬ 9 ≤ (I kx_forest 1) → ((vp_in v3 24) ∧ ((¬ ((v2 >>> ((I kx_now_cables_order v3.toNatClampNeg) &&& 31)) &&& 1) = 1 → (ab_E w (d + 1) mt_Forest_grow 46 [.ref kx_forest, .ref kx_now_cables, .int v2, .int (v3 + 1), .null] [] (I, L, ab_RR, n, nc, ns) res)) ∧ (((v2 >>> ((I kx_now_cables_order v3.toNatClampNeg) &&& 31)) &&& 1) = 1 → ((vp_in (I kx_now_cables_order v3.toNatClampNeg) 24) ∧ ∃ (r6 : Int32) (I7 : Nat → Nat → Int32), ab_C w d mt_K_unite [.ref kx_forest_piece, .int (I kx_now_cables_first (I kx_now_cables_order v3.toNatClampNeg).toNatClampNeg), .int (I kx_now_cables_second (I kx_now_cables_order v3.toNatClampNeg).toNatClampNeg)] (I, L, ab_RR, n, nc, ns) (.inl (some (.int r6)), (I7, L, ab_RR, n, nc, ns)) ∧ ((r6 = 0 → (ab_E w (d + 1) mt_Forest_grow 46 [.ref kx_forest, .ref kx_now_cables, .int v2, .int (v3 + 1), .null] [] (I7, L, ab_RR, n, nc, ns) res)) ∧ (¬ r6 = 0 → ((vp_in (I7 kx_forest 1) 9) ∧ ab_E w (d + 1) mt_Forest_grow 46 [.ref kx_forest, .ref kx_now_cables, .int v2, .int (v3 + 1), .null] [] ((ab_up (ab_up (ab_up (ab_up (ab_up I7 kx_forest_order (I7 kx_forest 1).toNatClampNeg (I kx_now_cables_order v3.toNatClampNeg)) kx_forest 1 ((I7 kx_forest 1) + 1)) kx_forest 2 ((I7 kx_forest 2) ||| ((1 : Int32) <<< ((I kx_now_cables_order v3.toNatClampNeg) &&& 31)))) kx_forest 3 ((I7 kx_forest 3) + (I7 kx_now_cables_price (I kx_now_cables_order v3.toNatClampNeg).toNatClampNeg))) kx_forest 4 ((I7 kx_forest 4) - 1)), L, ab_RR, n, nc, ns) res)))))))))))) : ab_E w (d + 1) mt_Forest_grow 46 [.ref kx_forest, .ref kx_now_cables, .int v2, .int v3, .null] [] (I, L, ab_RR, n, nc, ns) res := by
  refine ab_iload_n (i := 3) d_Forest_grow_46 rfl rfl ?_
  refine ab_aload_n (i := 1) d_Forest_grow_47 rfl rfl ?_
  refine ab_getI (ci := 1) (k := 1) d_Forest_grow_48 v_195 rfl (by decide) (by decide) rfl ?_
  refine ab_icmp_ge (tgt := 174) d_Forest_grow_51 (by decide) (fun c1 => ?_) (fun c1 => ?_)
  · have h := h.1 c1
    exact ab_vret d_Forest_grow_174 rfl h
  · have h := h.2 c1
    refine ab_aload_n (i := 0) d_Forest_grow_54 rfl rfl ?_
    refine ab_getI (ci := 2) (k := 1) d_Forest_grow_55 v_331 rfl (by decide) (by decide) rfl ?_
    refine ab_aload_n (i := 0) d_Forest_grow_58 rfl rfl ?_
    refine ab_getR (ci := 2) (k := 0) (j := kx_forest_order) d_Forest_grow_59 v_328 rfl (by decide) (by decide) rfl r_kx_forest_0 ?_
    refine ab_alen (v := 9) d_Forest_grow_62 (by decide) (by decide) rfl ?_
    refine ab_icmp_ge (tgt := 174) d_Forest_grow_63 (by decide) (fun c2 => ?_) (fun c2 => ?_)
    · have h := h.1 c2
      exact ab_vret d_Forest_grow_174 rfl h
    · have h := h.2 c2
      refine ab_aload_n (i := 1) d_Forest_grow_66 rfl rfl ?_
      refine ab_getR (ci := 1) (k := 7) (j := kx_now_cables_order) d_Forest_grow_67 v_231 rfl (by decide) (by decide) rfl r_kx_now_cables_7 ?_
      refine ab_iload_n (i := 3) d_Forest_grow_70 rfl rfl ?_
      have g3 := h.1; have h := h.2
      refine ab_iald d_Forest_grow_71 rfl rfl g3 ?_
      refine ab_istore (i := 4) d_Forest_grow_72 (by decide) (Or.inr rfl) ?_
      refine ab_iload_n (i := 2) d_Forest_grow_74 rfl rfl ?_
      refine ab_iload (i := 4) d_Forest_grow_75 rfl ?_
      refine ab_ishr d_Forest_grow_77 ?_
      refine ab_iconst (v := 1) d_Forest_grow_78 rfl ?_
      refine ab_iand d_Forest_grow_79 ?_
      refine ab_iconst (v := 1) d_Forest_grow_80 rfl ?_
      refine ab_icmp_ne (tgt := 168) d_Forest_grow_81 (by decide) (fun c4 => ?_) (fun c4 => ?_)
      · have h := h.1 c4
        refine ab_iinc (i := 3) (v := (v3 + 1)) d_Forest_grow_168 rfl rfl (by decide) (Or.inr rfl) ?_
        refine ab_goto (tgt := 46) d_Forest_grow_171 (by decide) ?_
        refine ab_drop 4 ?_
        exact h
      · have h := h.2 c4
        refine ab_aload_n (i := 0) d_Forest_grow_84 rfl rfl ?_
        refine ab_getR (ci := 2) (k := 5) (j := kx_forest_piece) d_Forest_grow_85 v_340 rfl (by decide) (by decide) rfl r_kx_forest_5 ?_
        refine ab_aload_n (i := 1) d_Forest_grow_88 rfl rfl ?_
        refine ab_getR (ci := 1) (k := 3) (j := kx_now_cables_first) d_Forest_grow_89 v_207 rfl (by decide) (by decide) rfl r_kx_now_cables_3 ?_
        refine ab_iload (i := 4) d_Forest_grow_92 rfl ?_
        have g5 := h.1; have h := h.2
        refine ab_iald d_Forest_grow_94 rfl rfl g5 ?_
        refine ab_aload_n (i := 1) d_Forest_grow_95 rfl rfl ?_
        refine ab_getR (ci := 1) (k := 4) (j := kx_now_cables_second) d_Forest_grow_96 v_214 rfl (by decide) (by decide) rfl r_kx_now_cables_4 ?_
        refine ab_iload (i := 4) d_Forest_grow_99 rfl ?_
        refine ab_iald d_Forest_grow_101 rfl rfl g5 ?_
        obtain ⟨r6, I7, hC, h⟩ := h
        refine ab_callS (me2 := mt_K_unite) (as := [.ref kx_forest_piece, .int (I kx_now_cables_first (I kx_now_cables_order v3.toNatClampNeg).toNatClampNeg), .int (I kx_now_cables_second (I kx_now_cables_order v3.toNatClampNeg).toNatClampNeg)]) (st := []) (rv := (some (.int r6))) (M2 := (I7, L, ab_RR, n, nc, ns)) d_Forest_grow_102 ce_K_unite ⟨v_445, Or.inr ⟨_, u_444⟩⟩ (Nat.le_of_ble_eq_true rfl) hC (Nat.le_refl _) (Nat.le_refl _) hc hs (fun j h9 => by cases h9) (fun _ _ => rfl) ?_
        show ab_E w (d + 1) mt_Forest_grow 105 [.ref kx_forest, .ref kx_now_cables, .int v2, .int v3, .int (I kx_now_cables_order v3.toNatClampNeg)] [.int r6] (I7, L, ab_RR, n, nc, ns) res
        refine ab_if_eq (tgt := 168) d_Forest_grow_105 (by decide) (fun c8 => ?_) (fun c8 => ?_)
        · have h := h.1 c8
          refine ab_iinc (i := 3) (v := (v3 + 1)) d_Forest_grow_168 rfl rfl (by decide) (Or.inr rfl) ?_
          refine ab_goto (tgt := 46) d_Forest_grow_171 (by decide) ?_
          refine ab_drop 4 ?_
          exact h
        · have h := h.2 c8
          refine ab_aload_n (i := 0) d_Forest_grow_108 rfl rfl ?_
          refine ab_getR (ci := 2) (k := 0) (j := kx_forest_order) d_Forest_grow_109 v_328 rfl (by decide) (by decide) rfl r_kx_forest_0 ?_
          refine ab_aload_n (i := 0) d_Forest_grow_112 rfl rfl ?_
          refine ab_getI (ci := 2) (k := 1) d_Forest_grow_113 v_331 rfl (by decide) (by decide) rfl ?_
          refine ab_iload (i := 4) d_Forest_grow_116 rfl ?_
          have g9 := h.1; have h := h.2
          refine ab_iast d_Forest_grow_118 rfl rfl g9 ?_
          refine ab_aload_n (i := 0) d_Forest_grow_119 rfl rfl ?_
          refine ab_dupr d_Forest_grow_120 ?_
          refine ab_getI (ci := 2) (k := 1) d_Forest_grow_121 v_331 rfl (by decide) (by decide) rfl ?_
          refine ab_iconst (v := 1) d_Forest_grow_124 rfl ?_
          refine ab_iadd d_Forest_grow_125 ?_
          refine ab_putI (ci := 2) (k := 1) d_Forest_grow_126 v_331 rfl (by decide) (by decide) rfl (Or.inl rfl) rfl rfl ?_
          refine ab_aload_n (i := 0) d_Forest_grow_129 rfl rfl ?_
          refine ab_dupr d_Forest_grow_130 ?_
          refine ab_getI (ci := 2) (k := 2) d_Forest_grow_131 v_334 rfl (by decide) (by decide) rfl ?_
          refine ab_iconst (v := 1) d_Forest_grow_134 rfl ?_
          refine ab_iload (i := 4) d_Forest_grow_135 rfl ?_
          refine ab_ishl d_Forest_grow_137 ?_
          refine ab_ior d_Forest_grow_138 ?_
          refine ab_putI (ci := 2) (k := 2) d_Forest_grow_139 v_334 rfl (by decide) (by decide) rfl (Or.inl rfl) rfl rfl ?_
          refine ab_aload_n (i := 0) d_Forest_grow_142 rfl rfl ?_
          refine ab_dupr d_Forest_grow_143 ?_
          refine ab_getI (ci := 2) (k := 3) d_Forest_grow_144 v_336 rfl (by decide) (by decide) rfl ?_
          refine ab_aload_n (i := 1) d_Forest_grow_147 rfl rfl ?_
          refine ab_getR (ci := 1) (k := 5) (j := kx_now_cables_price) d_Forest_grow_148 v_221 rfl (by decide) (by decide) rfl r_kx_now_cables_5 ?_
          refine ab_iload (i := 4) d_Forest_grow_151 rfl ?_
          refine ab_iald d_Forest_grow_153 rfl rfl g5 ?_
          refine ab_iadd d_Forest_grow_154 ?_
          refine ab_putI (ci := 2) (k := 3) d_Forest_grow_155 v_336 rfl (by decide) (by decide) rfl (Or.inl rfl) rfl rfl ?_
          refine ab_aload_n (i := 0) d_Forest_grow_158 rfl rfl ?_
          refine ab_dupr d_Forest_grow_159 ?_
          refine ab_getI (ci := 2) (k := 4) d_Forest_grow_160 v_338 rfl (by decide) (by decide) rfl ?_
          refine ab_iconst (v := 1) d_Forest_grow_163 rfl ?_
          refine ab_isub d_Forest_grow_164 ?_
          refine ab_putI (ci := 2) (k := 4) d_Forest_grow_165 v_338 rfl (by decide) (by decide) rfl (Or.inl rfl) rfl rfl ?_
          refine ab_iinc (i := 3) (v := (v3 + 1)) d_Forest_grow_168 rfl rfl (by decide) (Or.inr rfl) ?_
          refine ab_goto (tgt := 46) d_Forest_grow_171 (by decide) ?_
          refine ab_drop 4 ?_
          exact h
theorem r_K_lowestOf_0 {w : ab_Wd} {d n nc ns : Nat} {I : Nat → Nat → Int32} {L : Nat → Nat → Int64} {res : ab_Re} (hT : w.1.stackTraces = false) (v0 : Int32) (hc : nc ≤ res.2.2.2.2.2.1) (hs : ns ≤ res.2.2.2.2.2.2)
    (h : ab_E w d mt_K_lowestOf 2 [.int v0, .int 0] [] (I, L, ab_RR, n, nc, ns) res) : ab_E w d mt_K_lowestOf 0 [.int v0, .null] [] (I, L, ab_RR, n, nc, ns) res := by
  refine ab_iconst (v := 0) d_K_lowestOf_0 rfl ?_
  refine ab_istore_n (i := 1) d_K_lowestOf_1 rfl (by decide) (Or.inr rfl) ?_
  exact h
theorem r_K_lowestOf_2 {w : ab_Wd} {d n nc ns : Nat} {I : Nat → Nat → Int32} {L : Nat → Nat → Int64} {res : ab_Re} (hT : w.1.stackTraces = false) (v0 : Int32) (v1 : Int32) (hc : nc ≤ res.2.2.2.2.2.1) (hs : ns ≤ res.2.2.2.2.2.2)
    (h : ((24 ≤ v1 → (res = (.inl (some (.int (-1))), (I, L, ab_RR, n, nc, ns)))) ∧ (¬ 24 ≤ v1 → ((¬ ((v0 >>> (v1 &&& 31)) &&& 1) = 1 → (ab_E w d mt_K_lowestOf 2 [.int v0, .int (v1 + 1)] [] (I, L, ab_RR, n, nc, ns) res)) ∧ (((v0 >>> (v1 &&& 31)) &&& 1) = 1 → (res = (.inl (some (.int v1)), (I, L, ab_RR, n, nc, ns)))))))) : ab_E w d mt_K_lowestOf 2 [.int v0, .int v1] [] (I, L, ab_RR, n, nc, ns) res := by
  refine ab_iload_n (i := 1) d_K_lowestOf_2 rfl rfl ?_
  refine ab_bipush (v := 24) d_K_lowestOf_3 rfl ?_
  refine ab_icmp_ge (tgt := 25) d_K_lowestOf_5 (by decide) (fun c1 => ?_) (fun c1 => ?_)
  · have h := h.1 c1
    refine ab_iconst (v := (-1)) d_K_lowestOf_25 rfl ?_
    exact ab_iret (ty := .int) d_K_lowestOf_26 rfl rfl h
  · have h := h.2 c1
    refine ab_iload_n (i := 0) d_K_lowestOf_8 rfl rfl ?_
    refine ab_iload_n (i := 1) d_K_lowestOf_9 rfl rfl ?_
    refine ab_ishr d_K_lowestOf_10 ?_
    refine ab_iconst (v := 1) d_K_lowestOf_11 rfl ?_
    refine ab_iand d_K_lowestOf_12 ?_
    refine ab_iconst (v := 1) d_K_lowestOf_13 rfl ?_
    refine ab_icmp_ne (tgt := 19) d_K_lowestOf_14 (by decide) (fun c2 => ?_) (fun c2 => ?_)
    · have h := h.1 c2
      refine ab_iinc (i := 1) (v := (v1 + 1)) d_K_lowestOf_19 rfl rfl (by decide) (Or.inr rfl) ?_
      refine ab_goto (tgt := 2) d_K_lowestOf_22 (by decide) ?_
      exact h
    · have h := h.2 c2
      refine ab_iload_n (i := 1) d_K_lowestOf_17 rfl rfl ?_
      exact ab_iret (ty := .int) d_K_lowestOf_18 rfl rfl h
theorem r_Integer_bitCount_0 {w : ab_Wd} {d n nc ns : Nat} {I : Nat → Nat → Int32} {L : Nat → Nat → Int64} {res : ab_Re} (hT : w.1.stackTraces = false) (v0 : Int32) (hc : nc ≤ res.2.2.2.2.2.1) (hs : ns ≤ res.2.2.2.2.2.2)
    (h : res = (.inl (some (.int ((((((((v0 - ((ab_ushr v0 1) &&& 1431655765)) &&& 858993459) + ((ab_ushr (v0 - ((ab_ushr v0 1) &&& 1431655765)) 2) &&& 858993459)) + (ab_ushr (((v0 - ((ab_ushr v0 1) &&& 1431655765)) &&& 858993459) + ((ab_ushr (v0 - ((ab_ushr v0 1) &&& 1431655765)) 2) &&& 858993459)) 4)) &&& 252645135) + (ab_ushr (((((v0 - ((ab_ushr v0 1) &&& 1431655765)) &&& 858993459) + ((ab_ushr (v0 - ((ab_ushr v0 1) &&& 1431655765)) 2) &&& 858993459)) + (ab_ushr (((v0 - ((ab_ushr v0 1) &&& 1431655765)) &&& 858993459) + ((ab_ushr (v0 - ((ab_ushr v0 1) &&& 1431655765)) 2) &&& 858993459)) 4)) &&& 252645135) 8)) + (ab_ushr ((((((v0 - ((ab_ushr v0 1) &&& 1431655765)) &&& 858993459) + ((ab_ushr (v0 - ((ab_ushr v0 1) &&& 1431655765)) 2) &&& 858993459)) + (ab_ushr (((v0 - ((ab_ushr v0 1) &&& 1431655765)) &&& 858993459) + ((ab_ushr (v0 - ((ab_ushr v0 1) &&& 1431655765)) 2) &&& 858993459)) 4)) &&& 252645135) + (ab_ushr (((((v0 - ((ab_ushr v0 1) &&& 1431655765)) &&& 858993459) + ((ab_ushr (v0 - ((ab_ushr v0 1) &&& 1431655765)) 2) &&& 858993459)) + (ab_ushr (((v0 - ((ab_ushr v0 1) &&& 1431655765)) &&& 858993459) + ((ab_ushr (v0 - ((ab_ushr v0 1) &&& 1431655765)) 2) &&& 858993459)) 4)) &&& 252645135) 8)) 16)) &&& 63))), (I, L, ab_RR, n, nc, ns))) : ab_E w d mt_Integer_bitCount 0 [.int v0] [] (I, L, ab_RR, n, nc, ns) res := by
  refine ab_iload_n (i := 0) d_Integer_bitCount_0 rfl rfl ?_
  refine ab_iload_n (i := 0) d_Integer_bitCount_1 rfl rfl ?_
  refine ab_iconst (v := 1) d_Integer_bitCount_2 rfl ?_
  refine ab_iushr (v := (ab_ushr v0 1)) d_Integer_bitCount_3 rfl ?_
  refine ab_ldcw (v := 1431655765) d_Integer_bitCount_4 v_967 ?_
  refine ab_iand d_Integer_bitCount_7 ?_
  refine ab_isub d_Integer_bitCount_8 ?_
  refine ab_istore_n (i := 0) d_Integer_bitCount_9 rfl (by decide) (Or.inl rfl) ?_
  refine ab_iload_n (i := 0) d_Integer_bitCount_10 rfl rfl ?_
  refine ab_ldcw (v := 858993459) d_Integer_bitCount_11 v_968 ?_
  refine ab_iand d_Integer_bitCount_14 ?_
  refine ab_iload_n (i := 0) d_Integer_bitCount_15 rfl rfl ?_
  refine ab_iconst (v := 2) d_Integer_bitCount_16 rfl ?_
  refine ab_iushr (v := (ab_ushr (v0 - ((ab_ushr v0 1) &&& 1431655765)) 2)) d_Integer_bitCount_17 rfl ?_
  refine ab_ldcw (v := 858993459) d_Integer_bitCount_18 v_968 ?_
  refine ab_iand d_Integer_bitCount_21 ?_
  refine ab_iadd d_Integer_bitCount_22 ?_
  refine ab_istore_n (i := 0) d_Integer_bitCount_23 rfl (by decide) (Or.inl rfl) ?_
  refine ab_iload_n (i := 0) d_Integer_bitCount_24 rfl rfl ?_
  refine ab_iload_n (i := 0) d_Integer_bitCount_25 rfl rfl ?_
  refine ab_iconst (v := 4) d_Integer_bitCount_26 rfl ?_
  refine ab_iushr (v := (ab_ushr (((v0 - ((ab_ushr v0 1) &&& 1431655765)) &&& 858993459) + ((ab_ushr (v0 - ((ab_ushr v0 1) &&& 1431655765)) 2) &&& 858993459)) 4)) d_Integer_bitCount_27 rfl ?_
  refine ab_iadd d_Integer_bitCount_28 ?_
  refine ab_ldcw (v := 252645135) d_Integer_bitCount_29 v_969 ?_
  refine ab_iand d_Integer_bitCount_32 ?_
  refine ab_istore_n (i := 0) d_Integer_bitCount_33 rfl (by decide) (Or.inl rfl) ?_
  refine ab_iload_n (i := 0) d_Integer_bitCount_34 rfl rfl ?_
  refine ab_iload_n (i := 0) d_Integer_bitCount_35 rfl rfl ?_
  refine ab_bipush (v := 8) d_Integer_bitCount_36 rfl ?_
  refine ab_iushr (v := (ab_ushr (((((v0 - ((ab_ushr v0 1) &&& 1431655765)) &&& 858993459) + ((ab_ushr (v0 - ((ab_ushr v0 1) &&& 1431655765)) 2) &&& 858993459)) + (ab_ushr (((v0 - ((ab_ushr v0 1) &&& 1431655765)) &&& 858993459) + ((ab_ushr (v0 - ((ab_ushr v0 1) &&& 1431655765)) 2) &&& 858993459)) 4)) &&& 252645135) 8)) d_Integer_bitCount_38 rfl ?_
  refine ab_iadd d_Integer_bitCount_39 ?_
  refine ab_istore_n (i := 0) d_Integer_bitCount_40 rfl (by decide) (Or.inl rfl) ?_
  refine ab_iload_n (i := 0) d_Integer_bitCount_41 rfl rfl ?_
  refine ab_iload_n (i := 0) d_Integer_bitCount_42 rfl rfl ?_
  refine ab_bipush (v := 16) d_Integer_bitCount_43 rfl ?_
  refine ab_iushr (v := (ab_ushr ((((((v0 - ((ab_ushr v0 1) &&& 1431655765)) &&& 858993459) + ((ab_ushr (v0 - ((ab_ushr v0 1) &&& 1431655765)) 2) &&& 858993459)) + (ab_ushr (((v0 - ((ab_ushr v0 1) &&& 1431655765)) &&& 858993459) + ((ab_ushr (v0 - ((ab_ushr v0 1) &&& 1431655765)) 2) &&& 858993459)) 4)) &&& 252645135) + (ab_ushr (((((v0 - ((ab_ushr v0 1) &&& 1431655765)) &&& 858993459) + ((ab_ushr (v0 - ((ab_ushr v0 1) &&& 1431655765)) 2) &&& 858993459)) + (ab_ushr (((v0 - ((ab_ushr v0 1) &&& 1431655765)) &&& 858993459) + ((ab_ushr (v0 - ((ab_ushr v0 1) &&& 1431655765)) 2) &&& 858993459)) 4)) &&& 252645135) 8)) 16)) d_Integer_bitCount_45 rfl ?_
  refine ab_iadd d_Integer_bitCount_46 ?_
  refine ab_istore_n (i := 0) d_Integer_bitCount_47 rfl (by decide) (Or.inl rfl) ?_
  refine ab_iload_n (i := 0) d_Integer_bitCount_48 rfl rfl ?_
  refine ab_bipush (v := 63) d_Integer_bitCount_49 rfl ?_
  refine ab_iand d_Integer_bitCount_51 ?_
  exact ab_iret (ty := .int) d_Integer_bitCount_52 rfl rfl h
theorem r_Cables_sort_1_0 {w : ab_Wd} {d n nc ns : Nat} {I : Nat → Nat → Int32} {L : Nat → Nat → Int64} {res : ab_Re} (hT : w.1.stackTraces = false)  (hc : nc ≤ res.2.2.2.2.2.1) (hs : ns ≤ res.2.2.2.2.2.2)
    (h : ab_E w d mt_Cables_sort 2 [.ref kx_trial, .int 0, .null] [] (I, L, ab_RR, n, nc, ns) res) : ab_E w d mt_Cables_sort 0 [.ref kx_trial, .null, .null] [] (I, L, ab_RR, n, nc, ns) res := by
  refine ab_iconst (v := 0) d_Cables_sort_0 rfl ?_
  refine ab_istore_n (i := 1) d_Cables_sort_1 rfl (by decide) (Or.inr rfl) ?_
  exact h
theorem r_Cables_sort_1_2 {w : ab_Wd} {d n nc ns : Nat} {I : Nat → Nat → Int32} {L : Nat → Nat → Int64} {res : ab_Re} (hT : w.1.stackTraces = false) (v1 : Int32) (hc : nc ≤ res.2.2.2.2.2.1) (hs : ns ≤ res.2.2.2.2.2.2)
    (h : (((I kx_trial 1) ≤ v1 → (res = (.inl none, (I, L, ab_RR, n, nc, ns)))) ∧ (¬ (I kx_trial 1) ≤ v1 → (ab_E w d mt_Cables_sort 12 [.ref kx_trial, .int v1, .int v1] [] (I, L, ab_RR, n, nc, ns) res)))) : ab_E w d mt_Cables_sort 2 [.ref kx_trial, .int v1, .null] [] (I, L, ab_RR, n, nc, ns) res := by
  refine ab_iload_n (i := 1) d_Cables_sort_2 rfl rfl ?_
  refine ab_aload_n (i := 0) d_Cables_sort_3 rfl rfl ?_
  refine ab_getI (ci := 1) (k := 1) d_Cables_sort_4 v_192 rfl (by decide) (by decide) rfl ?_
  refine ab_icmp_ge (tgt := 71) d_Cables_sort_7 (by decide) (fun c1 => ?_) (fun c1 => ?_)
  · have h := h.1 c1
    exact ab_vret d_Cables_sort_71 rfl h
  · have h := h.2 c1
    refine ab_iload_n (i := 1) d_Cables_sort_10 rfl rfl ?_
    refine ab_istore_n (i := 2) d_Cables_sort_11 rfl (by decide) (Or.inr rfl) ?_
    exact h
theorem r_Cables_sort_1_12 {w : ab_Wd} {d n nc ns : Nat} {I : Nat → Nat → Int32} {L : Nat → Nat → Int64} {res : ab_Re} (hT : w.1.stackTraces = false) (v1 : Int32) (v2 : Int32) (hc : nc ≤ res.2.2.2.2.2.1) (hs : ns ≤ res.2.2.2.2.2.2)
    (h : ((v2 ≤ 0 → ((vp_in v2 24) ∧ ab_E w d mt_Cables_sort 2 [.ref kx_trial, .int (v1 + 1), .null] [] ((ab_up I kx_trial_order v2.toNatClampNeg v1), L, ab_RR, n, nc, ns) res)) ∧ (¬ v2 ≤ 0 → ((vp_in (v2 - 1) 24) ∧ (vp_in (I kx_trial_order (v2 - 1).toNatClampNeg) 24) ∧ (vp_in v1 24) ∧ (((I kx_trial_price (I kx_trial_order (v2 - 1).toNatClampNeg).toNatClampNeg) ≤ (I kx_trial_price v1.toNatClampNeg) → ((vp_in v2 24) ∧ ab_E w d mt_Cables_sort 2 [.ref kx_trial, .int (v1 + 1), .null] [] ((ab_up I kx_trial_order v2.toNatClampNeg v1), L, ab_RR, n, nc, ns) res)) ∧ (¬ (I kx_trial_price (I kx_trial_order (v2 - 1).toNatClampNeg).toNatClampNeg) ≤ (I kx_trial_price v1.toNatClampNeg) → ((vp_in v2 24) ∧ ab_E w d mt_Cables_sort 12 [.ref kx_trial, .int v1, .int (v2 + (-1))] [] ((ab_up I kx_trial_order v2.toNatClampNeg (I kx_trial_order (v2 - 1).toNatClampNeg)), L, ab_RR, n, nc, ns) res))))))) : ab_E w d mt_Cables_sort 12 [.ref kx_trial, .int v1, .int v2] [] (I, L, ab_RR, n, nc, ns) res := by
  refine ab_iload_n (i := 2) d_Cables_sort_12 rfl rfl ?_
  refine ab_if_le (tgt := 58) d_Cables_sort_13 (by decide) (fun c1 => ?_) (fun c1 => ?_)
  · have h := h.1 c1
    refine ab_aload_n (i := 0) d_Cables_sort_58 rfl rfl ?_
    refine ab_getR (ci := 1) (k := 7) (j := kx_trial_order) d_Cables_sort_59 v_229 rfl (by decide) (by decide) rfl r_kx_trial_7 ?_
    refine ab_iload_n (i := 2) d_Cables_sort_62 rfl rfl ?_
    refine ab_iload_n (i := 1) d_Cables_sort_63 rfl rfl ?_
    have g2 := h.1; have h := h.2
    refine ab_iast d_Cables_sort_64 rfl rfl g2 ?_
    refine ab_iinc (i := 1) (v := (v1 + 1)) d_Cables_sort_65 rfl rfl (by decide) (Or.inr rfl) ?_
    refine ab_goto (tgt := 2) d_Cables_sort_68 (by decide) ?_
    refine ab_drop 2 ?_
    exact h
  · have h := h.2 c1
    refine ab_aload_n (i := 0) d_Cables_sort_16 rfl rfl ?_
    refine ab_getR (ci := 1) (k := 5) (j := kx_trial_price) d_Cables_sort_17 v_218 rfl (by decide) (by decide) rfl r_kx_trial_5 ?_
    refine ab_aload_n (i := 0) d_Cables_sort_20 rfl rfl ?_
    refine ab_getR (ci := 1) (k := 7) (j := kx_trial_order) d_Cables_sort_21 v_229 rfl (by decide) (by decide) rfl r_kx_trial_7 ?_
    refine ab_iload_n (i := 2) d_Cables_sort_24 rfl rfl ?_
    refine ab_iconst (v := 1) d_Cables_sort_25 rfl ?_
    refine ab_isub d_Cables_sort_26 ?_
    have g3 := h.1; have h := h.2
    refine ab_iald d_Cables_sort_27 rfl rfl g3 ?_
    have g4 := h.1; have h := h.2
    refine ab_iald d_Cables_sort_28 rfl rfl g4 ?_
    refine ab_aload_n (i := 0) d_Cables_sort_29 rfl rfl ?_
    refine ab_getR (ci := 1) (k := 5) (j := kx_trial_price) d_Cables_sort_30 v_218 rfl (by decide) (by decide) rfl r_kx_trial_5 ?_
    refine ab_iload_n (i := 1) d_Cables_sort_33 rfl rfl ?_
    have g5 := h.1; have h := h.2
    refine ab_iald d_Cables_sort_34 rfl rfl g5 ?_
    refine ab_icmp_le (tgt := 58) d_Cables_sort_35 (by decide) (fun c6 => ?_) (fun c6 => ?_)
    · have h := h.1 c6
      refine ab_aload_n (i := 0) d_Cables_sort_58 rfl rfl ?_
      refine ab_getR (ci := 1) (k := 7) (j := kx_trial_order) d_Cables_sort_59 v_229 rfl (by decide) (by decide) rfl r_kx_trial_7 ?_
      refine ab_iload_n (i := 2) d_Cables_sort_62 rfl rfl ?_
      refine ab_iload_n (i := 1) d_Cables_sort_63 rfl rfl ?_
      have g7 := h.1; have h := h.2
      refine ab_iast d_Cables_sort_64 rfl rfl g7 ?_
      refine ab_iinc (i := 1) (v := (v1 + 1)) d_Cables_sort_65 rfl rfl (by decide) (Or.inr rfl) ?_
      refine ab_goto (tgt := 2) d_Cables_sort_68 (by decide) ?_
      refine ab_drop 2 ?_
      exact h
    · have h := h.2 c6
      refine ab_aload_n (i := 0) d_Cables_sort_38 rfl rfl ?_
      refine ab_getR (ci := 1) (k := 7) (j := kx_trial_order) d_Cables_sort_39 v_229 rfl (by decide) (by decide) rfl r_kx_trial_7 ?_
      refine ab_iload_n (i := 2) d_Cables_sort_42 rfl rfl ?_
      refine ab_aload_n (i := 0) d_Cables_sort_43 rfl rfl ?_
      refine ab_getR (ci := 1) (k := 7) (j := kx_trial_order) d_Cables_sort_44 v_229 rfl (by decide) (by decide) rfl r_kx_trial_7 ?_
      refine ab_iload_n (i := 2) d_Cables_sort_47 rfl rfl ?_
      refine ab_iconst (v := 1) d_Cables_sort_48 rfl ?_
      refine ab_isub d_Cables_sort_49 ?_
      refine ab_iald d_Cables_sort_50 rfl rfl g3 ?_
      have g8 := h.1; have h := h.2
      refine ab_iast d_Cables_sort_51 rfl rfl g8 ?_
      refine ab_iinc (i := 2) (v := (v2 + (-1))) d_Cables_sort_52 rfl rfl (by decide) (Or.inr rfl) ?_
      refine ab_goto (tgt := 12) d_Cables_sort_55 (by decide) ?_
      exact h
theorem cx_Roads_shorten_0 {w : ab_Wd} {d n nc ns : Nat} {I : Nat → Nat → Int32} {L : Nat → Nat → Int64} (v1 : Int32) (v2 : Int32) (v3 : Int32) (hT : w.1.stackTraces = false) (e1 : (vp_in ((v1 * 10) + v2) 100)) (e2 : (vp_in ((v1 * 10) + v2) 100)) : ab_C w (d + 1) mt_Roads_shorten [.ref kx_roads, .int v1, .int v2, .int v3] (I, L, ab_RR, n, nc, ns) (.inl none, ((ab_up I kx_roads_lengths ((v1 * 10) + v2).toNatClampNeg (ab_min32 (I kx_roads_lengths ((v1 * 10) + v2).toNatClampNeg) v3)), L, ab_RR, n, nc, ns)) := by
  refine ab_C_of (by decide) rfl (Nat.le_of_ble_eq_true rfl) hT ?_
  have hc := Nat.le_refl nc
  have hs := Nat.le_refl ns
  refine ab_iload_n (i := 1) d_Roads_shorten_0 rfl rfl ?_
  refine ab_bipush (v := 10) d_Roads_shorten_1 rfl ?_
  refine ab_imul d_Roads_shorten_3 ?_
  refine ab_iload_n (i := 2) d_Roads_shorten_4 rfl rfl ?_
  refine ab_iadd d_Roads_shorten_5 ?_
  refine ab_istore (i := 4) d_Roads_shorten_6 (by decide) (Or.inr rfl) ?_
  refine ab_aload_n (i := 0) d_Roads_shorten_8 rfl rfl ?_
  refine ab_getR (ci := 5) (k := 1) (j := kx_roads_lengths) d_Roads_shorten_9 v_386 rfl (by decide) (by decide) rfl r_kx_roads_1 ?_
  refine ab_iload (i := 4) d_Roads_shorten_12 rfl ?_
  refine ab_aload_n (i := 0) d_Roads_shorten_14 rfl rfl ?_
  refine ab_getR (ci := 5) (k := 1) (j := kx_roads_lengths) d_Roads_shorten_15 v_386 rfl (by decide) (by decide) rfl r_kx_roads_1 ?_
  refine ab_iload (i := 4) d_Roads_shorten_18 rfl ?_
  refine ab_iald d_Roads_shorten_20 rfl rfl e1 ?_
  refine ab_iload_n (i := 3) d_Roads_shorten_21 rfl rfl ?_
  refine ab_min d_Roads_shorten_22 v_1038 v_448 v_150 v_449 (Nat.succ_le_succ (Nat.zero_le _)) (Nat.le_of_ble_eq_true rfl) hc hs ?_
  refine ab_iast d_Roads_shorten_25 rfl rfl e2 ?_
  exact ab_vret d_Roads_shorten_26 rfl rfl
theorem r_Roads_measure_0 {w : ab_Wd} {d n nc ns : Nat} {I : Nat → Nat → Int32} {L : Nat → Nat → Int64} {res : ab_Re} (hT : w.1.stackTraces = false)  (hc : nc ≤ res.2.2.2.2.2.1) (hs : ns ≤ res.2.2.2.2.2.2)
    (h : ab_E w (d + 2) mt_Roads_measure 10 [.ref kx_roads, .ref kx_now_cables, .int 0] [] ((ab_up I kx_roads 0 (I kx_now_cables 0)), L, ab_RR, n, nc, ns) res) : ab_E w (d + 2) mt_Roads_measure 0 [.ref kx_roads, .ref kx_now_cables, .null] [] (I, L, ab_RR, n, nc, ns) res := by
  refine ab_aload_n (i := 0) d_Roads_measure_0 rfl rfl ?_
  refine ab_aload_n (i := 1) d_Roads_measure_1 rfl rfl ?_
  refine ab_getI (ci := 1) (k := 0) d_Roads_measure_2 v_188 rfl (by decide) (by decide) rfl ?_
  refine ab_putI (ci := 5) (k := 0) d_Roads_measure_5 v_385 rfl (by decide) (by decide) rfl (Or.inl rfl) rfl rfl ?_
  refine ab_iconst (v := 0) d_Roads_measure_8 rfl ?_
  refine ab_istore_n (i := 2) d_Roads_measure_9 rfl (by decide) (Or.inr rfl) ?_
  exact h
theorem r_Roads_measure_10 {w : ab_Wd} {d n nc ns : Nat} {I : Nat → Nat → Int32} {L : Nat → Nat → Int64} {res : ab_Re} (hT : w.1.stackTraces = false) (v2 : Int32) (hc : nc ≤ res.2.2.2.2.2.1) (hs : ns ≤ res.2.2.2.2.2.2)
    (h : ((100 ≤ v2 → (ab_E w (d + 2) mt_Roads_measure 35 [.ref kx_roads, .ref kx_now_cables, .int 0] [] (I, L, ab_RR, n, nc, ns) res)) ∧ (¬ 100 ≤ v2 → ((vp_in v2 100) ∧ ab_E w (d + 2) mt_Roads_measure 10 [.ref kx_roads, .ref kx_now_cables, .int (v2 + 1)] [] ((ab_up I kx_roads_lengths v2.toNatClampNeg 1000000), L, ab_RR, n, nc, ns) res)))) : ab_E w (d + 2) mt_Roads_measure 10 [.ref kx_roads, .ref kx_now_cables, .int v2] [] (I, L, ab_RR, n, nc, ns) res := by
  refine ab_iload_n (i := 2) d_Roads_measure_10 rfl rfl ?_
  refine ab_aload_n (i := 0) d_Roads_measure_11 rfl rfl ?_
  refine ab_getR (ci := 5) (k := 1) (j := kx_roads_lengths) d_Roads_measure_12 v_386 rfl (by decide) (by decide) rfl r_kx_roads_1 ?_
  refine ab_alen (v := 100) d_Roads_measure_15 (by decide) (by decide) rfl ?_
  refine ab_icmp_ge (tgt := 33) d_Roads_measure_16 (by decide) (fun c1 => ?_) (fun c1 => ?_)
  · have h := h.1 c1
    refine ab_iconst (v := 0) d_Roads_measure_33 rfl ?_
    refine ab_istore_n (i := 2) d_Roads_measure_34 rfl (by decide) (Or.inr rfl) ?_
    exact h
  · have h := h.2 c1
    refine ab_aload_n (i := 0) d_Roads_measure_19 rfl rfl ?_
    refine ab_getR (ci := 5) (k := 1) (j := kx_roads_lengths) d_Roads_measure_20 v_386 rfl (by decide) (by decide) rfl r_kx_roads_1 ?_
    refine ab_iload_n (i := 2) d_Roads_measure_23 rfl rfl ?_
    refine ab_ldc (v := 1000000) d_Roads_measure_24 v_1033 ?_
    have g2 := h.1; have h := h.2
    refine ab_iast d_Roads_measure_26 rfl rfl g2 ?_
    refine ab_iinc (i := 2) (v := (v2 + 1)) d_Roads_measure_27 rfl rfl (by decide) (Or.inr rfl) ?_
    refine ab_goto (tgt := 10) d_Roads_measure_30 (by decide) ?_
    exact h
theorem r_Roads_measure_35 {w : ab_Wd} {d n nc ns : Nat} {I : Nat → Nat → Int32} {L : Nat → Nat → Int64} {res : ab_Re} (hT : w.1.stackTraces = false) (v2 : Int32) (hc : nc ≤ res.2.2.2.2.2.1) (hs : ns ≤ res.2.2.2.2.2.2)
    (h : (((I kx_roads 0) ≤ v2 → (ab_E w (d + 2) mt_Roads_measure 58 [.ref kx_roads, .ref kx_now_cables, .int 0] [] (I, L, ab_RR, n, nc, ns) res)) ∧ (¬ (I kx_roads 0) ≤ v2 → ((vp_in ((v2 * 10) + v2) 100) ∧ ab_E w (d + 2) mt_Roads_measure 35 [.ref kx_roads, .ref kx_now_cables, .int (v2 + 1)] [] ((ab_up I kx_roads_lengths ((v2 * 10) + v2).toNatClampNeg (ab_min32 (I kx_roads_lengths ((v2 * 10) + v2).toNatClampNeg) 0)), L, ab_RR, n, nc, ns) res)))) : ab_E w (d + 2) mt_Roads_measure 35 [.ref kx_roads, .ref kx_now_cables, .int v2] [] (I, L, ab_RR, n, nc, ns) res := by
  refine ab_iload_n (i := 2) d_Roads_measure_35 rfl rfl ?_
  refine ab_aload_n (i := 0) d_Roads_measure_36 rfl rfl ?_
  refine ab_getI (ci := 5) (k := 0) d_Roads_measure_37 v_385 rfl (by decide) (by decide) rfl ?_
  refine ab_icmp_ge (tgt := 56) d_Roads_measure_40 (by decide) (fun c1 => ?_) (fun c1 => ?_)
  · have h := h.1 c1
    refine ab_iconst (v := 0) d_Roads_measure_56 rfl ?_
    refine ab_istore_n (i := 2) d_Roads_measure_57 rfl (by decide) (Or.inr rfl) ?_
    exact h
  · have h := h.2 c1
    refine ab_aload_n (i := 0) d_Roads_measure_43 rfl rfl ?_
    refine ab_iload_n (i := 2) d_Roads_measure_44 rfl rfl ?_
    refine ab_iload_n (i := 2) d_Roads_measure_45 rfl rfl ?_
    refine ab_iconst (v := 0) d_Roads_measure_46 rfl ?_
    have g4 := h.1; have h := h.2
    refine ab_callV (me2 := mt_Roads_shorten) (b := kx_roads) (as := [.int v2, .int v2, .int 0]) (st := []) (rv := none) (M2 := ((ab_up I kx_roads_lengths ((v2 * 10) + v2).toNatClampNeg (ab_min32 (I kx_roads_lengths ((v2 * 10) + v2).toNatClampNeg) 0)), L, ab_RR, n, nc, ns)) d_Roads_measure_47 ce_Roads_shorten v_1034 v_1036 v_41 (by decide) rfl (Nat.le_of_ble_eq_true rfl) (cx_Roads_shorten_0 v2 v2 0 hT g4 g4) (Nat.le_refl _) (Nat.le_refl _) hc hs (fun j h9 => by cases h9) (fun _ _ => rfl) ?_
    show ab_E w (d + 2) mt_Roads_measure 50 [.ref kx_roads, .ref kx_now_cables, .int v2] [] ((ab_up I kx_roads_lengths ((v2 * 10) + v2).toNatClampNeg (ab_min32 (I kx_roads_lengths ((v2 * 10) + v2).toNatClampNeg) 0)), L, ab_RR, n, nc, ns) res
    refine ab_iinc (i := 2) (v := (v2 + 1)) d_Roads_measure_50 rfl rfl (by decide) (Or.inr rfl) ?_
    refine ab_goto (tgt := 35) d_Roads_measure_53 (by decide) ?_
    exact h
theorem r_Roads_measure_58 {w : ab_Wd} {d n nc ns : Nat} {I : Nat → Nat → Int32} {L : Nat → Nat → Int64} {res : ab_Re} (hT : w.1.stackTraces = false) (v2 : Int32) (hc : nc ≤ res.2.2.2.2.2.1) (hs : ns ≤ res.2.2.2.2.2.2)
    (h : (((I kx_now_cables 1) ≤ v2 → (ab_E w (d + 2) mt_Roads_measure 126 [.ref kx_roads, .ref kx_now_cables, .int 0] [] (I, L, ab_RR, n, nc, ns) res)) ∧ (¬ (I kx_now_cables 1) ≤ v2 → (((((I kx_now_cables 2) >>> (v2 &&& 31)) &&& 1) = 1 → ((vp_in v2 24) ∧ (vp_in (((I kx_now_cables_first v2.toNatClampNeg) * 10) + (I kx_now_cables_second v2.toNatClampNeg)) 100) ∧ (vp_in (((I kx_now_cables_second v2.toNatClampNeg) * 10) + (I kx_now_cables_first v2.toNatClampNeg)) 100) ∧ ab_E w (d + 2) mt_Roads_measure 58 [.ref kx_roads, .ref kx_now_cables, .int (v2 + 1)] [] ((ab_up (ab_up I kx_roads_lengths (((I kx_now_cables_first v2.toNatClampNeg) * 10) + (I kx_now_cables_second v2.toNatClampNeg)).toNatClampNeg (ab_min32 (I kx_roads_lengths (((I kx_now_cables_first v2.toNatClampNeg) * 10) + (I kx_now_cables_second v2.toNatClampNeg)).toNatClampNeg) (I kx_now_cables_price v2.toNatClampNeg))) kx_roads_lengths (((I kx_now_cables_second v2.toNatClampNeg) * 10) + (I kx_now_cables_first v2.toNatClampNeg)).toNatClampNeg (ab_min32 ((ab_up I kx_roads_lengths (((I kx_now_cables_first v2.toNatClampNeg) * 10) + (I kx_now_cables_second v2.toNatClampNeg)).toNatClampNeg (ab_min32 (I kx_roads_lengths (((I kx_now_cables_first v2.toNatClampNeg) * 10) + (I kx_now_cables_second v2.toNatClampNeg)).toNatClampNeg) (I kx_now_cables_price v2.toNatClampNeg))) kx_roads_lengths (((I kx_now_cables_second v2.toNatClampNeg) * 10) + (I kx_now_cables_first v2.toNatClampNeg)).toNatClampNeg) (I kx_now_cables_price v2.toNatClampNeg))), L, ab_RR, n, nc, ns) res)) ∧ (¬ (((I kx_now_cables 2) >>> (v2 &&& 31)) &&& 1) = 1 → (ab_E w (d + 2) mt_Roads_measure 58 [.ref kx_roads, .ref kx_now_cables, .int (v2 + 1)] [] (I, L, ab_RR, n, nc, ns) res)))))) : ab_E w (d + 2) mt_Roads_measure 58 [.ref kx_roads, .ref kx_now_cables, .int v2] [] (I, L, ab_RR, n, nc, ns) res := by
  refine ab_iload_n (i := 2) d_Roads_measure_58 rfl rfl ?_
  refine ab_aload_n (i := 1) d_Roads_measure_59 rfl rfl ?_
  refine ab_getI (ci := 1) (k := 1) d_Roads_measure_60 v_196 rfl (by decide) (by decide) rfl ?_
  refine ab_icmp_ge (tgt := 124) d_Roads_measure_63 (by decide) (fun c1 => ?_) (fun c1 => ?_)
  · have h := h.1 c1
    refine ab_iconst (v := 0) d_Roads_measure_124 rfl ?_
    refine ab_istore_n (i := 2) d_Roads_measure_125 rfl (by decide) (Or.inr rfl) ?_
    exact h
  · have h := h.2 c1
    refine ab_aload_n (i := 1) d_Roads_measure_66 rfl rfl ?_
    refine ab_iload_n (i := 2) d_Roads_measure_67 rfl rfl ?_
    by_cases c3 : (((I kx_now_cables 2) >>> (v2 &&& 31)) &&& 1) = 1
    · have h := h.1 c3
      refine ab_callV (me2 := mt_Cables_isSound) (b := kx_now_cables) (as := [.int v2]) (st := []) (rv := (some (.int 1))) (M2 := (I, L, ab_RR, n, nc, ns)) d_Roads_measure_68 ce_Cables_isSound v_1039 v_540 v_541 (by decide) rfl (Nat.le_of_ble_eq_true rfl) (cx_Cables_isSound_0_1 v2 hT c3) (Nat.le_refl _) (Nat.le_refl _) hc hs (fun j h9 => by cases h9) (fun _ _ => rfl) ?_
      show ab_E w (d + 2) mt_Roads_measure 71 [.ref kx_roads, .ref kx_now_cables, .int v2] [.int 1] (I, L, ab_RR, n, nc, ns) res
      refine ab_if_eq (tgt := 118) d_Roads_measure_71 (by decide) (fun c9 => absurd c9 (show ¬ (1 : Int32) = 0 from by decide)) (fun _ => ?_)
      refine ab_aload_n (i := 0) d_Roads_measure_74 rfl rfl ?_
      refine ab_aload_n (i := 1) d_Roads_measure_75 rfl rfl ?_
      refine ab_getR (ci := 1) (k := 3) (j := kx_now_cables_first) d_Roads_measure_76 v_208 rfl (by decide) (by decide) rfl r_kx_now_cables_3 ?_
      refine ab_iload_n (i := 2) d_Roads_measure_79 rfl rfl ?_
      have g4 := h.1; have h := h.2
      refine ab_iald d_Roads_measure_80 rfl rfl g4 ?_
      refine ab_aload_n (i := 1) d_Roads_measure_81 rfl rfl ?_
      refine ab_getR (ci := 1) (k := 4) (j := kx_now_cables_second) d_Roads_measure_82 v_215 rfl (by decide) (by decide) rfl r_kx_now_cables_4 ?_
      refine ab_iload_n (i := 2) d_Roads_measure_85 rfl rfl ?_
      refine ab_iald d_Roads_measure_86 rfl rfl g4 ?_
      refine ab_aload_n (i := 1) d_Roads_measure_87 rfl rfl ?_
      refine ab_getR (ci := 1) (k := 5) (j := kx_now_cables_price) d_Roads_measure_88 v_223 rfl (by decide) (by decide) rfl r_kx_now_cables_5 ?_
      refine ab_iload_n (i := 2) d_Roads_measure_91 rfl rfl ?_
      refine ab_iald d_Roads_measure_92 rfl rfl g4 ?_
      have g7 := h.1; have h := h.2
      refine ab_callV (me2 := mt_Roads_shorten) (b := kx_roads) (as := [.int (I kx_now_cables_first v2.toNatClampNeg), .int (I kx_now_cables_second v2.toNatClampNeg), .int (I kx_now_cables_price v2.toNatClampNeg)]) (st := []) (rv := none) (M2 := ((ab_up I kx_roads_lengths (((I kx_now_cables_first v2.toNatClampNeg) * 10) + (I kx_now_cables_second v2.toNatClampNeg)).toNatClampNeg (ab_min32 (I kx_roads_lengths (((I kx_now_cables_first v2.toNatClampNeg) * 10) + (I kx_now_cables_second v2.toNatClampNeg)).toNatClampNeg) (I kx_now_cables_price v2.toNatClampNeg))), L, ab_RR, n, nc, ns)) d_Roads_measure_93 ce_Roads_shorten v_1034 v_1036 v_41 (by decide) rfl (Nat.le_of_ble_eq_true rfl) (cx_Roads_shorten_0 (I kx_now_cables_first v2.toNatClampNeg) (I kx_now_cables_second v2.toNatClampNeg) (I kx_now_cables_price v2.toNatClampNeg) hT g7 g7) (Nat.le_refl _) (Nat.le_refl _) hc hs (fun j h9 => by cases h9) (fun _ _ => rfl) ?_
      show ab_E w (d + 2) mt_Roads_measure 96 [.ref kx_roads, .ref kx_now_cables, .int v2] [] ((ab_up I kx_roads_lengths (((I kx_now_cables_first v2.toNatClampNeg) * 10) + (I kx_now_cables_second v2.toNatClampNeg)).toNatClampNeg (ab_min32 (I kx_roads_lengths (((I kx_now_cables_first v2.toNatClampNeg) * 10) + (I kx_now_cables_second v2.toNatClampNeg)).toNatClampNeg) (I kx_now_cables_price v2.toNatClampNeg))), L, ab_RR, n, nc, ns) res
      refine ab_aload_n (i := 0) d_Roads_measure_96 rfl rfl ?_
      refine ab_aload_n (i := 1) d_Roads_measure_97 rfl rfl ?_
      refine ab_getR (ci := 1) (k := 4) (j := kx_now_cables_second) d_Roads_measure_98 v_215 rfl (by decide) (by decide) rfl r_kx_now_cables_4 ?_
      refine ab_iload_n (i := 2) d_Roads_measure_101 rfl rfl ?_
      refine ab_iald d_Roads_measure_102 rfl rfl g4 ?_
      refine ab_aload_n (i := 1) d_Roads_measure_103 rfl rfl ?_
      refine ab_getR (ci := 1) (k := 3) (j := kx_now_cables_first) d_Roads_measure_104 v_208 rfl (by decide) (by decide) rfl r_kx_now_cables_3 ?_
      refine ab_iload_n (i := 2) d_Roads_measure_107 rfl rfl ?_
      refine ab_iald d_Roads_measure_108 rfl rfl g4 ?_
      refine ab_aload_n (i := 1) d_Roads_measure_109 rfl rfl ?_
      refine ab_getR (ci := 1) (k := 5) (j := kx_now_cables_price) d_Roads_measure_110 v_223 rfl (by decide) (by decide) rfl r_kx_now_cables_5 ?_
      refine ab_iload_n (i := 2) d_Roads_measure_113 rfl rfl ?_
      refine ab_iald d_Roads_measure_114 rfl rfl g4 ?_
      have g10 := h.1; have h := h.2
      refine ab_callV (me2 := mt_Roads_shorten) (b := kx_roads) (as := [.int (I kx_now_cables_second v2.toNatClampNeg), .int (I kx_now_cables_first v2.toNatClampNeg), .int (I kx_now_cables_price v2.toNatClampNeg)]) (st := []) (rv := none) (M2 := ((ab_up (ab_up I kx_roads_lengths (((I kx_now_cables_first v2.toNatClampNeg) * 10) + (I kx_now_cables_second v2.toNatClampNeg)).toNatClampNeg (ab_min32 (I kx_roads_lengths (((I kx_now_cables_first v2.toNatClampNeg) * 10) + (I kx_now_cables_second v2.toNatClampNeg)).toNatClampNeg) (I kx_now_cables_price v2.toNatClampNeg))) kx_roads_lengths (((I kx_now_cables_second v2.toNatClampNeg) * 10) + (I kx_now_cables_first v2.toNatClampNeg)).toNatClampNeg (ab_min32 ((ab_up I kx_roads_lengths (((I kx_now_cables_first v2.toNatClampNeg) * 10) + (I kx_now_cables_second v2.toNatClampNeg)).toNatClampNeg (ab_min32 (I kx_roads_lengths (((I kx_now_cables_first v2.toNatClampNeg) * 10) + (I kx_now_cables_second v2.toNatClampNeg)).toNatClampNeg) (I kx_now_cables_price v2.toNatClampNeg))) kx_roads_lengths (((I kx_now_cables_second v2.toNatClampNeg) * 10) + (I kx_now_cables_first v2.toNatClampNeg)).toNatClampNeg) (I kx_now_cables_price v2.toNatClampNeg))), L, ab_RR, n, nc, ns)) d_Roads_measure_115 ce_Roads_shorten v_1034 v_1036 v_41 (by decide) rfl (Nat.le_of_ble_eq_true rfl) (cx_Roads_shorten_0 (I kx_now_cables_second v2.toNatClampNeg) (I kx_now_cables_first v2.toNatClampNeg) (I kx_now_cables_price v2.toNatClampNeg) hT g10 g10) (Nat.le_refl _) (Nat.le_refl _) hc hs (fun j h9 => by cases h9) (fun _ _ => rfl) ?_
      show ab_E w (d + 2) mt_Roads_measure 118 [.ref kx_roads, .ref kx_now_cables, .int v2] [] ((ab_up (ab_up I kx_roads_lengths (((I kx_now_cables_first v2.toNatClampNeg) * 10) + (I kx_now_cables_second v2.toNatClampNeg)).toNatClampNeg (ab_min32 (I kx_roads_lengths (((I kx_now_cables_first v2.toNatClampNeg) * 10) + (I kx_now_cables_second v2.toNatClampNeg)).toNatClampNeg) (I kx_now_cables_price v2.toNatClampNeg))) kx_roads_lengths (((I kx_now_cables_second v2.toNatClampNeg) * 10) + (I kx_now_cables_first v2.toNatClampNeg)).toNatClampNeg (ab_min32 ((ab_up I kx_roads_lengths (((I kx_now_cables_first v2.toNatClampNeg) * 10) + (I kx_now_cables_second v2.toNatClampNeg)).toNatClampNeg (ab_min32 (I kx_roads_lengths (((I kx_now_cables_first v2.toNatClampNeg) * 10) + (I kx_now_cables_second v2.toNatClampNeg)).toNatClampNeg) (I kx_now_cables_price v2.toNatClampNeg))) kx_roads_lengths (((I kx_now_cables_second v2.toNatClampNeg) * 10) + (I kx_now_cables_first v2.toNatClampNeg)).toNatClampNeg) (I kx_now_cables_price v2.toNatClampNeg))), L, ab_RR, n, nc, ns) res
      refine ab_iinc (i := 2) (v := (v2 + 1)) d_Roads_measure_118 rfl rfl (by decide) (Or.inr rfl) ?_
      refine ab_goto (tgt := 58) d_Roads_measure_121 (by decide) ?_
      exact h
    · have h := h.2 c3
      refine ab_callV (me2 := mt_Cables_isSound) (b := kx_now_cables) (as := [.int v2]) (st := []) (rv := (some (.int 0))) (M2 := (I, L, ab_RR, n, nc, ns)) d_Roads_measure_68 ce_Cables_isSound v_1039 v_540 v_541 (by decide) rfl (Nat.le_of_ble_eq_true rfl) (cx_Cables_isSound_0_0 v2 hT c3) (Nat.le_refl _) (Nat.le_refl _) hc hs (fun j h9 => by cases h9) (fun _ _ => rfl) ?_
      show ab_E w (d + 2) mt_Roads_measure 71 [.ref kx_roads, .ref kx_now_cables, .int v2] [.int 0] (I, L, ab_RR, n, nc, ns) res
      refine ab_if_eq (tgt := 118) d_Roads_measure_71 (by decide) (fun _ => ?_) (fun c9 => absurd (show (0 : Int32) = 0 from by decide) c9)
      refine ab_iinc (i := 2) (v := (v2 + 1)) d_Roads_measure_118 rfl rfl (by decide) (Or.inr rfl) ?_
      refine ab_goto (tgt := 58) d_Roads_measure_121 (by decide) ?_
      exact h
theorem r_Roads_measure_126 {w : ab_Wd} {d n nc ns : Nat} {I : Nat → Nat → Int32} {L : Nat → Nat → Int64} {res : ab_Re} (hT : w.1.stackTraces = false) (v2 : Int32) (hc : nc ≤ res.2.2.2.2.2.1) (hs : ns ≤ res.2.2.2.2.2.2)
    (h : (((I kx_roads 0) ≤ v2 → (res = (.inl none, (I, L, ab_RR, n, nc, ns)))) ∧ (¬ (I kx_roads 0) ≤ v2 → (∃ (I3 : Nat → Nat → Int32), ab_C w (d + 1) mt_Roads_measureOver [.ref kx_roads, .int v2] (I, L, ab_RR, n, nc, ns) (.inl none, (I3, L, ab_RR, n, nc, ns)) ∧ ab_E w (d + 2) mt_Roads_measure 126 [.ref kx_roads, .ref kx_now_cables, .int (v2 + 1)] [] (I3, L, ab_RR, n, nc, ns) res)))) : ab_E w (d + 2) mt_Roads_measure 126 [.ref kx_roads, .ref kx_now_cables, .int v2] [] (I, L, ab_RR, n, nc, ns) res := by
  refine ab_iload_n (i := 2) d_Roads_measure_126 rfl rfl ?_
  refine ab_aload_n (i := 0) d_Roads_measure_127 rfl rfl ?_
  refine ab_getI (ci := 5) (k := 0) d_Roads_measure_128 v_385 rfl (by decide) (by decide) rfl ?_
  refine ab_icmp_ge (tgt := 145) d_Roads_measure_131 (by decide) (fun c1 => ?_) (fun c1 => ?_)
  · have h := h.1 c1
    exact ab_vret d_Roads_measure_145 rfl h
  · have h := h.2 c1
    refine ab_aload_n (i := 0) d_Roads_measure_134 rfl rfl ?_
    refine ab_iload_n (i := 2) d_Roads_measure_135 rfl rfl ?_
    obtain ⟨I3, hC, h⟩ := h
    refine ab_callV (me2 := mt_Roads_measureOver) (b := kx_roads) (as := [.int v2]) (st := []) (rv := none) (M2 := (I3, L, ab_RR, n, nc, ns)) d_Roads_measure_136 ce_Roads_measureOver v_1040 v_1042 v_42 (by decide) rfl (Nat.le_of_ble_eq_true rfl) hC (Nat.le_refl _) (Nat.le_refl _) hc hs (fun j h9 => by cases h9) (fun _ _ => rfl) ?_
    show ab_E w (d + 2) mt_Roads_measure 139 [.ref kx_roads, .ref kx_now_cables, .int v2] [] (I3, L, ab_RR, n, nc, ns) res
    refine ab_iinc (i := 2) (v := (v2 + 1)) d_Roads_measure_139 rfl rfl (by decide) (Or.inr rfl) ?_
    refine ab_goto (tgt := 126) d_Roads_measure_142 (by decide) ?_
    exact h
theorem r_Cables_cheapestOf_0 {w : ab_Wd} {d n nc ns : Nat} {I : Nat → Nat → Int32} {L : Nat → Nat → Int64} {res : ab_Re} (hT : w.1.stackTraces = false) (v1 : Int32) (hc : nc ≤ res.2.2.2.2.2.1) (hs : ns ≤ res.2.2.2.2.2.2)
    (h : ab_E w d mt_Cables_cheapestOf 2 [.ref kx_now_cables, .int v1, .int 0] [] (I, L, ab_RR, n, nc, ns) res) : ab_E w d mt_Cables_cheapestOf 0 [.ref kx_now_cables, .int v1, .null] [] (I, L, ab_RR, n, nc, ns) res := by
  refine ab_iconst (v := 0) d_Cables_cheapestOf_0 rfl ?_
  refine ab_istore_n (i := 2) d_Cables_cheapestOf_1 rfl (by decide) (Or.inr rfl) ?_
  exact h
theorem r_Cables_cheapestOf_2 {w : ab_Wd} {d n nc ns : Nat} {I : Nat → Nat → Int32} {L : Nat → Nat → Int64} {res : ab_Re} (hT : w.1.stackTraces = false) (v1 : Int32) (v2 : Int32) (hc : nc ≤ res.2.2.2.2.2.1) (hs : ns ≤ res.2.2.2.2.2.2)
    (h : (((I kx_now_cables 1) ≤ v2 → (res = (.inl (some (.int (-1))), (I, L, ab_RR, n, nc, ns)))) ∧ (¬ (I kx_now_cables 1) ≤ v2 → ((vp_in v2 24) ∧ ((¬ ((v1 >>> ((I kx_now_cables_order v2.toNatClampNeg) &&& 31)) &&& 1) = 1 → (ab_E w d mt_Cables_cheapestOf 2 [.ref kx_now_cables, .int v1, .int (v2 + 1)] [] (I, L, ab_RR, n, nc, ns) res)) ∧ (((v1 >>> ((I kx_now_cables_order v2.toNatClampNeg) &&& 31)) &&& 1) = 1 → (res = (.inl (some (.int (I kx_now_cables_order v2.toNatClampNeg))), (I, L, ab_RR, n, nc, ns))))))))) : ab_E w d mt_Cables_cheapestOf 2 [.ref kx_now_cables, .int v1, .int v2] [] (I, L, ab_RR, n, nc, ns) res := by
  refine ab_iload_n (i := 2) d_Cables_cheapestOf_2 rfl rfl ?_
  refine ab_aload_n (i := 0) d_Cables_cheapestOf_3 rfl rfl ?_
  refine ab_getI (ci := 1) (k := 1) d_Cables_cheapestOf_4 v_192 rfl (by decide) (by decide) rfl ?_
  refine ab_icmp_ge (tgt := 37) d_Cables_cheapestOf_7 (by decide) (fun c1 => ?_) (fun c1 => ?_)
  · have h := h.1 c1
    refine ab_iconst (v := (-1)) d_Cables_cheapestOf_37 rfl ?_
    exact ab_iret (ty := .int) d_Cables_cheapestOf_38 rfl rfl h
  · have h := h.2 c1
    refine ab_iload_n (i := 1) d_Cables_cheapestOf_10 rfl rfl ?_
    refine ab_aload_n (i := 0) d_Cables_cheapestOf_11 rfl rfl ?_
    refine ab_getR (ci := 1) (k := 7) (j := kx_now_cables_order) d_Cables_cheapestOf_12 v_229 rfl (by decide) (by decide) rfl r_kx_now_cables_7 ?_
    refine ab_iload_n (i := 2) d_Cables_cheapestOf_15 rfl rfl ?_
    have g2 := h.1; have h := h.2
    refine ab_iald d_Cables_cheapestOf_16 rfl rfl g2 ?_
    refine ab_ishr d_Cables_cheapestOf_17 ?_
    refine ab_iconst (v := 1) d_Cables_cheapestOf_18 rfl ?_
    refine ab_iand d_Cables_cheapestOf_19 ?_
    refine ab_iconst (v := 1) d_Cables_cheapestOf_20 rfl ?_
    refine ab_icmp_ne (tgt := 31) d_Cables_cheapestOf_21 (by decide) (fun c3 => ?_) (fun c3 => ?_)
    · have h := h.1 c3
      refine ab_iinc (i := 2) (v := (v2 + 1)) d_Cables_cheapestOf_31 rfl rfl (by decide) (Or.inr rfl) ?_
      refine ab_goto (tgt := 2) d_Cables_cheapestOf_34 (by decide) ?_
      exact h
    · have h := h.2 c3
      refine ab_aload_n (i := 0) d_Cables_cheapestOf_24 rfl rfl ?_
      refine ab_getR (ci := 1) (k := 7) (j := kx_now_cables_order) d_Cables_cheapestOf_25 v_229 rfl (by decide) (by decide) rfl r_kx_now_cables_7 ?_
      refine ab_iload_n (i := 2) d_Cables_cheapestOf_28 rfl rfl ?_
      refine ab_iald d_Cables_cheapestOf_29 rfl rfl g2 ?_
      exact ab_iret (ty := .int) d_Cables_cheapestOf_30 rfl rfl h
theorem r_M_is_0 {w : ab_Wd} {d n nc ns : Nat} {I : Nat → Nat → Int32} {L : Nat → Nat → Int64} {res : ab_Re} (hT : w.1.stackTraces = false) {j : Nat} (hj : j < 8) (hc : nc ≤ res.2.2.2.2.2.1) (hs : ns ≤ res.2.2.2.2.2.2)
    (h : ((¬ (I mx 15) = 0 → (ab_E w (d + 1) mt_M_is 39 [.ref mx, .ref (64 * j + 32), .int 0, .int 0] [] (I, L, ab_RR, n, nc, ns) res)) ∧ ((I mx 15) = 0 → ((¬ (I mx 11) = 1 → (ab_E w (d + 1) mt_M_is 39 [.ref mx, .ref (64 * j + 32), .int 0, .int 0] [] (I, L, ab_RR, n, nc, ns) res)) ∧ ((I mx 11) = 1 → (∃ (r3 : Int32), ab_C w d mt_Str_length [.ref (64 * j + 32)] (I, L, ab_RR, n, nc, ns) (.inl (some (.int r3)), (I, L, ab_RR, n, nc, ns)) ∧ ((¬ r3 = ((I mx 14) - (I mx 13)) → (ab_E w (d + 1) mt_M_is 39 [.ref mx, .ref (64 * j + 32), .int 0, .int 0] [] (I, L, ab_RR, n, nc, ns) res)) ∧ (r3 = ((I mx 14) - (I mx 13)) → (ab_E w (d + 1) mt_M_is 39 [.ref mx, .ref (64 * j + 32), .int 1, .int 0] [] (I, L, ab_RR, n, nc, ns) res))))))))) : ab_E w (d + 1) mt_M_is 0 [.ref mx, .ref (64 * j + 32), .null, .null] [] (I, L, ab_RR, n, nc, ns) res := by
  refine ab_aload_n (i := 0) d_M_is_0 rfl rfl ?_
  refine ab_getI (ci := 11) (k := 15) d_M_is_1 v_1383 rfl (by decide) (by decide) rfl ?_
  refine ab_if_ne (tgt := 35) d_M_is_4 (by decide) (fun c1 => ?_) (fun c1 => ?_)
  · have h := h.1 c1
    refine ab_iconst (v := 0) d_M_is_35 rfl ?_
    refine ab_istore_n (i := 2) d_M_is_36 rfl (by decide) (Or.inr rfl) ?_
    refine ab_iconst (v := 0) d_M_is_37 rfl ?_
    refine ab_istore_n (i := 3) d_M_is_38 rfl (by decide) (Or.inr rfl) ?_
    exact h
  · have h := h.2 c1
    refine ab_aload_n (i := 0) d_M_is_7 rfl rfl ?_
    refine ab_getI (ci := 11) (k := 11) d_M_is_8 v_1379 rfl (by decide) (by decide) rfl ?_
    refine ab_iconst (v := 1) d_M_is_11 rfl ?_
    refine ab_icmp_ne (tgt := 35) d_M_is_12 (by decide) (fun c2 => ?_) (fun c2 => ?_)
    · have h := h.1 c2
      refine ab_iconst (v := 0) d_M_is_35 rfl ?_
      refine ab_istore_n (i := 2) d_M_is_36 rfl (by decide) (Or.inr rfl) ?_
      refine ab_iconst (v := 0) d_M_is_37 rfl ?_
      refine ab_istore_n (i := 3) d_M_is_38 rfl (by decide) (Or.inr rfl) ?_
      exact h
    · have h := h.2 c2
      refine ab_aload_n (i := 1) d_M_is_15 rfl rfl ?_
      obtain ⟨r3, hC, h⟩ := h
      refine ab_callT (me2 := mt_Str_length) (j := j) (as := []) (st := []) (rv := (some (.int r3))) (M2 := (I, L, ab_RR, n, nc, ns)) d_M_is_16 hj ce_Str_length v_1594 v_834 v_835 rfl (Nat.le_of_ble_eq_true rfl) hC (Nat.le_refl _) (Nat.le_refl _) hc hs (fun j h9 => by cases h9) (fun _ _ => rfl) ?_
      show ab_E w (d + 1) mt_M_is 19 [.ref mx, .ref (64 * j + 32), .null, .null] [.int r3] (I, L, ab_RR, n, nc, ns) res
      refine ab_aload_n (i := 0) d_M_is_19 rfl rfl ?_
      refine ab_getI (ci := 11) (k := 14) d_M_is_20 v_1382 rfl (by decide) (by decide) rfl ?_
      refine ab_aload_n (i := 0) d_M_is_23 rfl rfl ?_
      refine ab_getI (ci := 11) (k := 13) d_M_is_24 v_1381 rfl (by decide) (by decide) rfl ?_
      refine ab_isub d_M_is_27 ?_
      refine ab_icmp_ne (tgt := 35) d_M_is_28 (by decide) (fun c4 => ?_) (fun c4 => ?_)
      · have h := h.1 c4
        refine ab_iconst (v := 0) d_M_is_35 rfl ?_
        refine ab_istore_n (i := 2) d_M_is_36 rfl (by decide) (Or.inr rfl) ?_
        refine ab_iconst (v := 0) d_M_is_37 rfl ?_
        refine ab_istore_n (i := 3) d_M_is_38 rfl (by decide) (Or.inr rfl) ?_
        exact h
      · have h := h.2 c4
        refine ab_iconst (v := 1) d_M_is_31 rfl ?_
        refine ab_goto (tgt := 36) d_M_is_32 (by decide) ?_
        refine ab_istore_n (i := 2) d_M_is_36 rfl (by decide) (Or.inr rfl) ?_
        refine ab_iconst (v := 0) d_M_is_37 rfl ?_
        refine ab_istore_n (i := 3) d_M_is_38 rfl (by decide) (Or.inr rfl) ?_
        exact h
theorem r_M_is_39 {w : ab_Wd} {d n nc ns : Nat} {I : Nat → Nat → Int32} {L : Nat → Nat → Int64} {res : ab_Re} (hT : w.1.stackTraces = false) {j : Nat} (hj : j < 8) (v2 : Int32) (v3 : Int32) (hc : nc ≤ res.2.2.2.2.2.1) (hs : ns ≤ res.2.2.2.2.2.2)
    (h : ((v2 = 0 → ((narrow .boolean (.int v2) = .int v2) ∧ res = (.inl (some (.int v2)), (I, L, ab_RR, n, nc, ns)))) ∧ (¬ v2 = 0 → (∃ (r3 : Int32), ab_C w d mt_Str_length [.ref (64 * j + 32)] (I, L, ab_RR, n, nc, ns) (.inl (some (.int r3)), (I, L, ab_RR, n, nc, ns)) ∧ ((r3 ≤ v3 → ((narrow .boolean (.int v2) = .int v2) ∧ res = (.inl (some (.int v2)), (I, L, ab_RR, n, nc, ns)))) ∧ (¬ r3 ≤ v3 → (∃ (r6 : Int32), ab_C w d mt_Str_charAt [.ref (64 * j + 32), .int v3] (I, L, ab_RR, n, nc, ns) (.inl (some (.int r6)), (I, L, ab_RR, n, nc, ns)) ∧ (vp_in ((I mx 13) + v3) 700) ∧ ((¬ r6 = (I mx_tape ((I mx 13) + v3).toNatClampNeg) → (ab_E w (d + 1) mt_M_is 39 [.ref mx, .ref (64 * j + 32), .int 0, .int (v3 + 1)] [] (I, L, ab_RR, n, nc, ns) res)) ∧ (r6 = (I mx_tape ((I mx 13) + v3).toNatClampNeg) → (ab_E w (d + 1) mt_M_is 39 [.ref mx, .ref (64 * j + 32), .int 1, .int (v3 + 1)] [] (I, L, ab_RR, n, nc, ns) res)))))))))) : ab_E w (d + 1) mt_M_is 39 [.ref mx, .ref (64 * j + 32), .int v2, .int v3] [] (I, L, ab_RR, n, nc, ns) res := by
  refine ab_iload_n (i := 2) d_M_is_39 rfl rfl ?_
  refine ab_if_eq (tgt := 82) d_M_is_40 (by decide) (fun c1 => ?_) (fun c1 => ?_)
  · have h := h.1 c1
    refine ab_iload_n (i := 2) d_M_is_82 rfl rfl ?_
    have g2 := h.1; have h := h.2
    exact ab_iret (ty := .boolean) d_M_is_83 rfl g2 h
  · have h := h.2 c1
    refine ab_iload_n (i := 3) d_M_is_43 rfl rfl ?_
    refine ab_aload_n (i := 1) d_M_is_44 rfl rfl ?_
    obtain ⟨r3, hC, h⟩ := h
    refine ab_callT (me2 := mt_Str_length) (j := j) (as := []) (st := [.int v3]) (rv := (some (.int r3))) (M2 := (I, L, ab_RR, n, nc, ns)) d_M_is_45 hj ce_Str_length v_1594 v_834 v_835 rfl (Nat.le_of_ble_eq_true rfl) hC (Nat.le_refl _) (Nat.le_refl _) hc hs (fun j h9 => by cases h9) (fun _ _ => rfl) ?_
    show ab_E w (d + 1) mt_M_is 48 [.ref mx, .ref (64 * j + 32), .int v2, .int v3] [.int r3, .int v3] (I, L, ab_RR, n, nc, ns) res
    refine ab_icmp_ge (tgt := 82) d_M_is_48 (by decide) (fun c4 => ?_) (fun c4 => ?_)
    · have h := h.1 c4
      refine ab_iload_n (i := 2) d_M_is_82 rfl rfl ?_
      have g5 := h.1; have h := h.2
      exact ab_iret (ty := .boolean) d_M_is_83 rfl g5 h
    · have h := h.2 c4
      refine ab_aload_n (i := 1) d_M_is_51 rfl rfl ?_
      refine ab_iload_n (i := 3) d_M_is_52 rfl rfl ?_
      obtain ⟨r6, hC, h⟩ := h
      refine ab_callT (me2 := mt_Str_charAt) (j := j) (as := [.int v3]) (st := []) (rv := (some (.int r6))) (M2 := (I, L, ab_RR, n, nc, ns)) d_M_is_53 hj ce_Str_charAt v_1595 v_844 v_845 rfl (Nat.le_of_ble_eq_true rfl) hC (Nat.le_refl _) (Nat.le_refl _) hc hs (fun j h9 => by cases h9) (fun _ _ => rfl) ?_
      show ab_E w (d + 1) mt_M_is 56 [.ref mx, .ref (64 * j + 32), .int v2, .int v3] [.int r6] (I, L, ab_RR, n, nc, ns) res
      refine ab_aload_n (i := 0) d_M_is_56 rfl rfl ?_
      refine ab_getR (ci := 11) (k := 7) (j := mx_tape) d_M_is_57 v_1375 rfl (by decide) (by decide) rfl r_mx_7 ?_
      refine ab_aload_n (i := 0) d_M_is_60 rfl rfl ?_
      refine ab_getI (ci := 11) (k := 13) d_M_is_61 v_1381 rfl (by decide) (by decide) rfl ?_
      refine ab_iload_n (i := 3) d_M_is_64 rfl rfl ?_
      refine ab_iadd d_M_is_65 ?_
      have g7 := h.1; have h := h.2
      refine ab_iald d_M_is_66 rfl rfl g7 ?_
      refine ab_icmp_ne (tgt := 74) d_M_is_67 (by decide) (fun c8 => ?_) (fun c8 => ?_)
      · have h := h.1 c8
        refine ab_iconst (v := 0) d_M_is_74 rfl ?_
        refine ab_istore_n (i := 2) d_M_is_75 rfl (by decide) (Or.inr rfl) ?_
        refine ab_iinc (i := 3) (v := (v3 + 1)) d_M_is_76 rfl rfl (by decide) (Or.inr rfl) ?_
        refine ab_goto (tgt := 39) d_M_is_79 (by decide) ?_
        exact h
      · have h := h.2 c8
        refine ab_iconst (v := 1) d_M_is_70 rfl ?_
        refine ab_goto (tgt := 75) d_M_is_71 (by decide) ?_
        refine ab_istore_n (i := 2) d_M_is_75 rfl (by decide) (Or.inr rfl) ?_
        refine ab_iinc (i := 3) (v := (v3 + 1)) d_M_is_76 rfl rfl (by decide) (Or.inr rfl) ?_
        refine ab_goto (tgt := 39) d_M_is_79 (by decide) ?_
        exact h
theorem r_M_copyTo_0_0 {w : ab_Wd} {d n nc ns : Nat} {I : Nat → Nat → Int32} {L : Nat → Nat → Int64} {res : ab_Re} (hT : w.1.stackTraces = false)  (hc : nc ≤ res.2.2.2.2.2.1) (hs : ns ≤ res.2.2.2.2.2.2)
    (h : ab_E w d mt_M_copyTo 2 [.ref mx_now, .ref mx_reading, .int 0] [] (I, L, ab_RR, n, nc, ns) res) : ab_E w d mt_M_copyTo 0 [.ref mx_now, .ref mx_reading, .null] [] (I, L, ab_RR, n, nc, ns) res := by
  refine ab_iconst (v := 0) d_M_copyTo_0 rfl ?_
  refine ab_istore_n (i := 2) d_M_copyTo_1 rfl (by decide) (Or.inr rfl) ?_
  exact h
theorem r_M_copyTo_0_2 {w : ab_Wd} {d n nc ns : Nat} {I : Nat → Nat → Int32} {L : Nat → Nat → Int64} {res : ab_Re} (hT : w.1.stackTraces = false) (v2 : Int32) (hc : nc ≤ res.2.2.2.2.2.1) (hs : ns ≤ res.2.2.2.2.2.2)
    (h : ((399 ≤ v2 → (res = (.inl none, (I, L, ab_RR, n, nc, ns)))) ∧ (¬ 399 ≤ v2 → ((vp_in v2 399) ∧ ab_E w d mt_M_copyTo 2 [.ref mx_now, .ref mx_reading, .int (v2 + 1)] [] ((ab_up I mx_now v2.toNatClampNeg (I mx_reading v2.toNatClampNeg)), L, ab_RR, n, nc, ns) res)))) : ab_E w d mt_M_copyTo 2 [.ref mx_now, .ref mx_reading, .int v2] [] (I, L, ab_RR, n, nc, ns) res := by
  refine ab_iload_n (i := 2) d_M_copyTo_2 rfl rfl ?_
  refine ab_aload_n (i := 0) d_M_copyTo_3 rfl rfl ?_
  refine ab_alen (v := 399) d_M_copyTo_4 (by decide) (by decide) rfl ?_
  refine ab_icmp_ge (tgt := 20) d_M_copyTo_5 (by decide) (fun c1 => ?_) (fun c1 => ?_)
  · have h := h.1 c1
    exact ab_vret d_M_copyTo_20 rfl h
  · have h := h.2 c1
    refine ab_aload_n (i := 0) d_M_copyTo_8 rfl rfl ?_
    refine ab_iload_n (i := 2) d_M_copyTo_9 rfl rfl ?_
    refine ab_aload_n (i := 1) d_M_copyTo_10 rfl rfl ?_
    refine ab_iload_n (i := 2) d_M_copyTo_11 rfl rfl ?_
    have g2 := h.1; have h := h.2
    refine ab_iald d_M_copyTo_12 rfl rfl g2 ?_
    refine ab_iast d_M_copyTo_13 rfl rfl g2 ?_
    refine ab_iinc (i := 2) (v := (v2 + 1)) d_M_copyTo_14 rfl rfl (by decide) (Or.inr rfl) ?_
    refine ab_goto (tgt := 2) d_M_copyTo_17 (by decide) ?_
    exact h
theorem r_Integer_numberOfTrailingZeros_0 {w : ab_Wd} {d n nc ns : Nat} {I : Nat → Nat → Int32} {L : Nat → Nat → Int64} {res : ab_Re} (hT : w.1.stackTraces = false) (v0 : Int32) (hc : nc ≤ res.2.2.2.2.2.1) (hs : ns ≤ res.2.2.2.2.2.2)
    (h : ((0 < ((v0 ^^^ (-1)) &&& (v0 - 1)) → ((((v0 ^^^ (-1)) &&& (v0 - 1)) ≤ 65536 → ((((v0 ^^^ (-1)) &&& (v0 - 1)) ≤ 256 → ((((v0 ^^^ (-1)) &&& (v0 - 1)) ≤ 16 → ((((v0 ^^^ (-1)) &&& (v0 - 1)) ≤ 4 → (res = (.inl (some (.int (1 + (ab_ushr ((v0 ^^^ (-1)) &&& (v0 - 1)) 1)))), (I, L, ab_RR, n, nc, ns)))) ∧ (¬ ((v0 ^^^ (-1)) &&& (v0 - 1)) ≤ 4 → (res = (.inl (some (.int ((1 + 2) + (ab_ushr (ab_ushr ((v0 ^^^ (-1)) &&& (v0 - 1)) 2) 1)))), (I, L, ab_RR, n, nc, ns)))))) ∧ (¬ ((v0 ^^^ (-1)) &&& (v0 - 1)) ≤ 16 → (((ab_ushr ((v0 ^^^ (-1)) &&& (v0 - 1)) 4) ≤ 4 → (res = (.inl (some (.int ((1 + 4) + (ab_ushr (ab_ushr ((v0 ^^^ (-1)) &&& (v0 - 1)) 4) 1)))), (I, L, ab_RR, n, nc, ns)))) ∧ (¬ (ab_ushr ((v0 ^^^ (-1)) &&& (v0 - 1)) 4) ≤ 4 → (res = (.inl (some (.int (((1 + 4) + 2) + (ab_ushr (ab_ushr (ab_ushr ((v0 ^^^ (-1)) &&& (v0 - 1)) 4) 2) 1)))), (I, L, ab_RR, n, nc, ns)))))))) ∧ (¬ ((v0 ^^^ (-1)) &&& (v0 - 1)) ≤ 256 → (((ab_ushr ((v0 ^^^ (-1)) &&& (v0 - 1)) 8) ≤ 16 → (((ab_ushr ((v0 ^^^ (-1)) &&& (v0 - 1)) 8) ≤ 4 → (res = (.inl (some (.int ((1 + 8) + (ab_ushr (ab_ushr ((v0 ^^^ (-1)) &&& (v0 - 1)) 8) 1)))), (I, L, ab_RR, n, nc, ns)))) ∧ (¬ (ab_ushr ((v0 ^^^ (-1)) &&& (v0 - 1)) 8) ≤ 4 → (res = (.inl (some (.int (((1 + 8) + 2) + (ab_ushr (ab_ushr (ab_ushr ((v0 ^^^ (-1)) &&& (v0 - 1)) 8) 2) 1)))), (I, L, ab_RR, n, nc, ns)))))) ∧ (¬ (ab_ushr ((v0 ^^^ (-1)) &&& (v0 - 1)) 8) ≤ 16 → (((ab_ushr (ab_ushr ((v0 ^^^ (-1)) &&& (v0 - 1)) 8) 4) ≤ 4 → (res = (.inl (some (.int (((1 + 8) + 4) + (ab_ushr (ab_ushr (ab_ushr ((v0 ^^^ (-1)) &&& (v0 - 1)) 8) 4) 1)))), (I, L, ab_RR, n, nc, ns)))) ∧ (¬ (ab_ushr (ab_ushr ((v0 ^^^ (-1)) &&& (v0 - 1)) 8) 4) ≤ 4 → (res = (.inl (some (.int ((((1 + 8) + 4) + 2) + (ab_ushr (ab_ushr (ab_ushr (ab_ushr ((v0 ^^^ (-1)) &&& (v0 - 1)) 8) 4) 2) 1)))), (I, L, ab_RR, n, nc, ns)))))))))) ∧ (¬ ((v0 ^^^ (-1)) &&& (v0 - 1)) ≤ 65536 → (((ab_ushr ((v0 ^^^ (-1)) &&& (v0 - 1)) 16) ≤ 256 → (((ab_ushr ((v0 ^^^ (-1)) &&& (v0 - 1)) 16) ≤ 16 → (((ab_ushr ((v0 ^^^ (-1)) &&& (v0 - 1)) 16) ≤ 4 → (res = (.inl (some (.int ((1 + 16) + (ab_ushr (ab_ushr ((v0 ^^^ (-1)) &&& (v0 - 1)) 16) 1)))), (I, L, ab_RR, n, nc, ns)))) ∧ (¬ (ab_ushr ((v0 ^^^ (-1)) &&& (v0 - 1)) 16) ≤ 4 → (res = (.inl (some (.int (((1 + 16) + 2) + (ab_ushr (ab_ushr (ab_ushr ((v0 ^^^ (-1)) &&& (v0 - 1)) 16) 2) 1)))), (I, L, ab_RR, n, nc, ns)))))) ∧ (¬ (ab_ushr ((v0 ^^^ (-1)) &&& (v0 - 1)) 16) ≤ 16 → (((ab_ushr (ab_ushr ((v0 ^^^ (-1)) &&& (v0 - 1)) 16) 4) ≤ 4 → (res = (.inl (some (.int (((1 + 16) + 4) + (ab_ushr (ab_ushr (ab_ushr ((v0 ^^^ (-1)) &&& (v0 - 1)) 16) 4) 1)))), (I, L, ab_RR, n, nc, ns)))) ∧ (¬ (ab_ushr (ab_ushr ((v0 ^^^ (-1)) &&& (v0 - 1)) 16) 4) ≤ 4 → (res = (.inl (some (.int ((((1 + 16) + 4) + 2) + (ab_ushr (ab_ushr (ab_ushr (ab_ushr ((v0 ^^^ (-1)) &&& (v0 - 1)) 16) 4) 2) 1)))), (I, L, ab_RR, n, nc, ns)))))))) ∧ (¬ (ab_ushr ((v0 ^^^ (-1)) &&& (v0 - 1)) 16) ≤ 256 → (((ab_ushr (ab_ushr ((v0 ^^^ (-1)) &&& (v0 - 1)) 16) 8) ≤ 16 → (((ab_ushr (ab_ushr ((v0 ^^^ (-1)) &&& (v0 - 1)) 16) 8) ≤ 4 → (res = (.inl (some (.int (((1 + 16) + 8) + (ab_ushr (ab_ushr (ab_ushr ((v0 ^^^ (-1)) &&& (v0 - 1)) 16) 8) 1)))), (I, L, ab_RR, n, nc, ns)))) ∧ (¬ (ab_ushr (ab_ushr ((v0 ^^^ (-1)) &&& (v0 - 1)) 16) 8) ≤ 4 → (res = (.inl (some (.int ((((1 + 16) + 8) + 2) + (ab_ushr (ab_ushr (ab_ushr (ab_ushr ((v0 ^^^ (-1)) &&& (v0 - 1)) 16) 8) 2) 1)))), (I, L, ab_RR, n, nc, ns)))))) ∧ (¬ (ab_ushr (ab_ushr ((v0 ^^^ (-1)) &&& (v0 - 1)) 16) 8) ≤ 16 → (((ab_ushr (ab_ushr (ab_ushr ((v0 ^^^ (-1)) &&& (v0 - 1)) 16) 8) 4) ≤ 4 → (res = (.inl (some (.int ((((1 + 16) + 8) + 4) + (ab_ushr (ab_ushr (ab_ushr (ab_ushr ((v0 ^^^ (-1)) &&& (v0 - 1)) 16) 8) 4) 1)))), (I, L, ab_RR, n, nc, ns)))) ∧ (¬ (ab_ushr (ab_ushr (ab_ushr ((v0 ^^^ (-1)) &&& (v0 - 1)) 16) 8) 4) ≤ 4 → (res = (.inl (some (.int (((((1 + 16) + 8) + 4) + 2) + (ab_ushr (ab_ushr (ab_ushr (ab_ushr (ab_ushr ((v0 ^^^ (-1)) &&& (v0 - 1)) 16) 8) 4) 2) 1)))), (I, L, ab_RR, n, nc, ns)))))))))))) ∧ (¬ 0 < ((v0 ^^^ (-1)) &&& (v0 - 1)) → (res = (.inl (some (.int (((v0 ^^^ (-1)) &&& (v0 - 1)) &&& 32))), (I, L, ab_RR, n, nc, ns)))))) : ab_E w d mt_Integer_numberOfTrailingZeros 0 [.int v0, .null] [] (I, L, ab_RR, n, nc, ns) res := by
  refine ab_iload_n (i := 0) d_Integer_numberOfTrailingZeros_0 rfl rfl ?_
  refine ab_iconst (v := (-1)) d_Integer_numberOfTrailingZeros_1 rfl ?_
  refine ab_ixor d_Integer_numberOfTrailingZeros_2 ?_
  refine ab_iload_n (i := 0) d_Integer_numberOfTrailingZeros_3 rfl rfl ?_
  refine ab_iconst (v := 1) d_Integer_numberOfTrailingZeros_4 rfl ?_
  refine ab_isub d_Integer_numberOfTrailingZeros_5 ?_
  refine ab_iand d_Integer_numberOfTrailingZeros_6 ?_
  refine ab_istore_n (i := 0) d_Integer_numberOfTrailingZeros_7 rfl (by decide) (Or.inl rfl) ?_
  refine ab_iload_n (i := 0) d_Integer_numberOfTrailingZeros_8 rfl rfl ?_
  refine ab_if_gt (tgt := 17) d_Integer_numberOfTrailingZeros_9 (by decide) (fun c1 => ?_) (fun c1 => ?_)
  · have h := h.1 c1
    refine ab_iconst (v := 1) d_Integer_numberOfTrailingZeros_17 rfl ?_
    refine ab_istore_n (i := 1) d_Integer_numberOfTrailingZeros_18 rfl (by decide) (Or.inr rfl) ?_
    refine ab_iload_n (i := 0) d_Integer_numberOfTrailingZeros_19 rfl rfl ?_
    refine ab_ldcw (v := 65536) d_Integer_numberOfTrailingZeros_20 v_1919 ?_
    refine ab_icmp_le (tgt := 34) d_Integer_numberOfTrailingZeros_23 (by decide) (fun c2 => ?_) (fun c2 => ?_)
    · have h := h.1 c2
      refine ab_iload_n (i := 0) d_Integer_numberOfTrailingZeros_34 rfl rfl ?_
      refine ab_sipush (v := 256) d_Integer_numberOfTrailingZeros_35 rfl ?_
      refine ab_icmp_le (tgt := 49) d_Integer_numberOfTrailingZeros_38 (by decide) (fun c3 => ?_) (fun c3 => ?_)
      · have h := h.1 c3
        refine ab_iload_n (i := 0) d_Integer_numberOfTrailingZeros_49 rfl rfl ?_
        refine ab_bipush (v := 16) d_Integer_numberOfTrailingZeros_50 rfl ?_
        refine ab_icmp_le (tgt := 62) d_Integer_numberOfTrailingZeros_52 (by decide) (fun c4 => ?_) (fun c4 => ?_)
        · have h := h.1 c4
          refine ab_iload_n (i := 0) d_Integer_numberOfTrailingZeros_62 rfl rfl ?_
          refine ab_iconst (v := 4) d_Integer_numberOfTrailingZeros_63 rfl ?_
          refine ab_icmp_le (tgt := 74) d_Integer_numberOfTrailingZeros_64 (by decide) (fun c5 => ?_) (fun c5 => ?_)
          · have h := h.1 c5
            refine ab_iload_n (i := 1) d_Integer_numberOfTrailingZeros_74 rfl rfl ?_
            refine ab_iload_n (i := 0) d_Integer_numberOfTrailingZeros_75 rfl rfl ?_
            refine ab_iconst (v := 1) d_Integer_numberOfTrailingZeros_76 rfl ?_
            refine ab_iushr (v := (ab_ushr ((v0 ^^^ (-1)) &&& (v0 - 1)) 1)) d_Integer_numberOfTrailingZeros_77 rfl ?_
            refine ab_iadd d_Integer_numberOfTrailingZeros_78 ?_
            exact ab_iret (ty := .int) d_Integer_numberOfTrailingZeros_79 rfl rfl h
          · have h := h.2 c5
            refine ab_iinc (i := 1) (v := (1 + 2)) d_Integer_numberOfTrailingZeros_67 rfl rfl (by decide) (Or.inr rfl) ?_
            refine ab_iload_n (i := 0) d_Integer_numberOfTrailingZeros_70 rfl rfl ?_
            refine ab_iconst (v := 2) d_Integer_numberOfTrailingZeros_71 rfl ?_
            refine ab_iushr (v := (ab_ushr ((v0 ^^^ (-1)) &&& (v0 - 1)) 2)) d_Integer_numberOfTrailingZeros_72 rfl ?_
            refine ab_istore_n (i := 0) d_Integer_numberOfTrailingZeros_73 rfl (by decide) (Or.inl rfl) ?_
            refine ab_iload_n (i := 1) d_Integer_numberOfTrailingZeros_74 rfl rfl ?_
            refine ab_iload_n (i := 0) d_Integer_numberOfTrailingZeros_75 rfl rfl ?_
            refine ab_iconst (v := 1) d_Integer_numberOfTrailingZeros_76 rfl ?_
            refine ab_iushr (v := (ab_ushr (ab_ushr ((v0 ^^^ (-1)) &&& (v0 - 1)) 2) 1)) d_Integer_numberOfTrailingZeros_77 rfl ?_
            refine ab_iadd d_Integer_numberOfTrailingZeros_78 ?_
            exact ab_iret (ty := .int) d_Integer_numberOfTrailingZeros_79 rfl rfl h
        · have h := h.2 c4
          refine ab_iinc (i := 1) (v := (1 + 4)) d_Integer_numberOfTrailingZeros_55 rfl rfl (by decide) (Or.inr rfl) ?_
          refine ab_iload_n (i := 0) d_Integer_numberOfTrailingZeros_58 rfl rfl ?_
          refine ab_iconst (v := 4) d_Integer_numberOfTrailingZeros_59 rfl ?_
          refine ab_iushr (v := (ab_ushr ((v0 ^^^ (-1)) &&& (v0 - 1)) 4)) d_Integer_numberOfTrailingZeros_60 rfl ?_
          refine ab_istore_n (i := 0) d_Integer_numberOfTrailingZeros_61 rfl (by decide) (Or.inl rfl) ?_
          refine ab_iload_n (i := 0) d_Integer_numberOfTrailingZeros_62 rfl rfl ?_
          refine ab_iconst (v := 4) d_Integer_numberOfTrailingZeros_63 rfl ?_
          refine ab_icmp_le (tgt := 74) d_Integer_numberOfTrailingZeros_64 (by decide) (fun c6 => ?_) (fun c6 => ?_)
          · have h := h.1 c6
            refine ab_iload_n (i := 1) d_Integer_numberOfTrailingZeros_74 rfl rfl ?_
            refine ab_iload_n (i := 0) d_Integer_numberOfTrailingZeros_75 rfl rfl ?_
            refine ab_iconst (v := 1) d_Integer_numberOfTrailingZeros_76 rfl ?_
            refine ab_iushr (v := (ab_ushr (ab_ushr ((v0 ^^^ (-1)) &&& (v0 - 1)) 4) 1)) d_Integer_numberOfTrailingZeros_77 rfl ?_
            refine ab_iadd d_Integer_numberOfTrailingZeros_78 ?_
            exact ab_iret (ty := .int) d_Integer_numberOfTrailingZeros_79 rfl rfl h
          · have h := h.2 c6
            refine ab_iinc (i := 1) (v := ((1 + 4) + 2)) d_Integer_numberOfTrailingZeros_67 rfl rfl (by decide) (Or.inr rfl) ?_
            refine ab_iload_n (i := 0) d_Integer_numberOfTrailingZeros_70 rfl rfl ?_
            refine ab_iconst (v := 2) d_Integer_numberOfTrailingZeros_71 rfl ?_
            refine ab_iushr (v := (ab_ushr (ab_ushr ((v0 ^^^ (-1)) &&& (v0 - 1)) 4) 2)) d_Integer_numberOfTrailingZeros_72 rfl ?_
            refine ab_istore_n (i := 0) d_Integer_numberOfTrailingZeros_73 rfl (by decide) (Or.inl rfl) ?_
            refine ab_iload_n (i := 1) d_Integer_numberOfTrailingZeros_74 rfl rfl ?_
            refine ab_iload_n (i := 0) d_Integer_numberOfTrailingZeros_75 rfl rfl ?_
            refine ab_iconst (v := 1) d_Integer_numberOfTrailingZeros_76 rfl ?_
            refine ab_iushr (v := (ab_ushr (ab_ushr (ab_ushr ((v0 ^^^ (-1)) &&& (v0 - 1)) 4) 2) 1)) d_Integer_numberOfTrailingZeros_77 rfl ?_
            refine ab_iadd d_Integer_numberOfTrailingZeros_78 ?_
            exact ab_iret (ty := .int) d_Integer_numberOfTrailingZeros_79 rfl rfl h
      · have h := h.2 c3
        refine ab_iinc (i := 1) (v := (1 + 8)) d_Integer_numberOfTrailingZeros_41 rfl rfl (by decide) (Or.inr rfl) ?_
        refine ab_iload_n (i := 0) d_Integer_numberOfTrailingZeros_44 rfl rfl ?_
        refine ab_bipush (v := 8) d_Integer_numberOfTrailingZeros_45 rfl ?_
        refine ab_iushr (v := (ab_ushr ((v0 ^^^ (-1)) &&& (v0 - 1)) 8)) d_Integer_numberOfTrailingZeros_47 rfl ?_
        refine ab_istore_n (i := 0) d_Integer_numberOfTrailingZeros_48 rfl (by decide) (Or.inl rfl) ?_
        refine ab_iload_n (i := 0) d_Integer_numberOfTrailingZeros_49 rfl rfl ?_
        refine ab_bipush (v := 16) d_Integer_numberOfTrailingZeros_50 rfl ?_
        refine ab_icmp_le (tgt := 62) d_Integer_numberOfTrailingZeros_52 (by decide) (fun c7 => ?_) (fun c7 => ?_)
        · have h := h.1 c7
          refine ab_iload_n (i := 0) d_Integer_numberOfTrailingZeros_62 rfl rfl ?_
          refine ab_iconst (v := 4) d_Integer_numberOfTrailingZeros_63 rfl ?_
          refine ab_icmp_le (tgt := 74) d_Integer_numberOfTrailingZeros_64 (by decide) (fun c8 => ?_) (fun c8 => ?_)
          · have h := h.1 c8
            refine ab_iload_n (i := 1) d_Integer_numberOfTrailingZeros_74 rfl rfl ?_
            refine ab_iload_n (i := 0) d_Integer_numberOfTrailingZeros_75 rfl rfl ?_
            refine ab_iconst (v := 1) d_Integer_numberOfTrailingZeros_76 rfl ?_
            refine ab_iushr (v := (ab_ushr (ab_ushr ((v0 ^^^ (-1)) &&& (v0 - 1)) 8) 1)) d_Integer_numberOfTrailingZeros_77 rfl ?_
            refine ab_iadd d_Integer_numberOfTrailingZeros_78 ?_
            exact ab_iret (ty := .int) d_Integer_numberOfTrailingZeros_79 rfl rfl h
          · have h := h.2 c8
            refine ab_iinc (i := 1) (v := ((1 + 8) + 2)) d_Integer_numberOfTrailingZeros_67 rfl rfl (by decide) (Or.inr rfl) ?_
            refine ab_iload_n (i := 0) d_Integer_numberOfTrailingZeros_70 rfl rfl ?_
            refine ab_iconst (v := 2) d_Integer_numberOfTrailingZeros_71 rfl ?_
            refine ab_iushr (v := (ab_ushr (ab_ushr ((v0 ^^^ (-1)) &&& (v0 - 1)) 8) 2)) d_Integer_numberOfTrailingZeros_72 rfl ?_
            refine ab_istore_n (i := 0) d_Integer_numberOfTrailingZeros_73 rfl (by decide) (Or.inl rfl) ?_
            refine ab_iload_n (i := 1) d_Integer_numberOfTrailingZeros_74 rfl rfl ?_
            refine ab_iload_n (i := 0) d_Integer_numberOfTrailingZeros_75 rfl rfl ?_
            refine ab_iconst (v := 1) d_Integer_numberOfTrailingZeros_76 rfl ?_
            refine ab_iushr (v := (ab_ushr (ab_ushr (ab_ushr ((v0 ^^^ (-1)) &&& (v0 - 1)) 8) 2) 1)) d_Integer_numberOfTrailingZeros_77 rfl ?_
            refine ab_iadd d_Integer_numberOfTrailingZeros_78 ?_
            exact ab_iret (ty := .int) d_Integer_numberOfTrailingZeros_79 rfl rfl h
        · have h := h.2 c7
          refine ab_iinc (i := 1) (v := ((1 + 8) + 4)) d_Integer_numberOfTrailingZeros_55 rfl rfl (by decide) (Or.inr rfl) ?_
          refine ab_iload_n (i := 0) d_Integer_numberOfTrailingZeros_58 rfl rfl ?_
          refine ab_iconst (v := 4) d_Integer_numberOfTrailingZeros_59 rfl ?_
          refine ab_iushr (v := (ab_ushr (ab_ushr ((v0 ^^^ (-1)) &&& (v0 - 1)) 8) 4)) d_Integer_numberOfTrailingZeros_60 rfl ?_
          refine ab_istore_n (i := 0) d_Integer_numberOfTrailingZeros_61 rfl (by decide) (Or.inl rfl) ?_
          refine ab_iload_n (i := 0) d_Integer_numberOfTrailingZeros_62 rfl rfl ?_
          refine ab_iconst (v := 4) d_Integer_numberOfTrailingZeros_63 rfl ?_
          refine ab_icmp_le (tgt := 74) d_Integer_numberOfTrailingZeros_64 (by decide) (fun c9 => ?_) (fun c9 => ?_)
          · have h := h.1 c9
            refine ab_iload_n (i := 1) d_Integer_numberOfTrailingZeros_74 rfl rfl ?_
            refine ab_iload_n (i := 0) d_Integer_numberOfTrailingZeros_75 rfl rfl ?_
            refine ab_iconst (v := 1) d_Integer_numberOfTrailingZeros_76 rfl ?_
            refine ab_iushr (v := (ab_ushr (ab_ushr (ab_ushr ((v0 ^^^ (-1)) &&& (v0 - 1)) 8) 4) 1)) d_Integer_numberOfTrailingZeros_77 rfl ?_
            refine ab_iadd d_Integer_numberOfTrailingZeros_78 ?_
            exact ab_iret (ty := .int) d_Integer_numberOfTrailingZeros_79 rfl rfl h
          · have h := h.2 c9
            refine ab_iinc (i := 1) (v := (((1 + 8) + 4) + 2)) d_Integer_numberOfTrailingZeros_67 rfl rfl (by decide) (Or.inr rfl) ?_
            refine ab_iload_n (i := 0) d_Integer_numberOfTrailingZeros_70 rfl rfl ?_
            refine ab_iconst (v := 2) d_Integer_numberOfTrailingZeros_71 rfl ?_
            refine ab_iushr (v := (ab_ushr (ab_ushr (ab_ushr ((v0 ^^^ (-1)) &&& (v0 - 1)) 8) 4) 2)) d_Integer_numberOfTrailingZeros_72 rfl ?_
            refine ab_istore_n (i := 0) d_Integer_numberOfTrailingZeros_73 rfl (by decide) (Or.inl rfl) ?_
            refine ab_iload_n (i := 1) d_Integer_numberOfTrailingZeros_74 rfl rfl ?_
            refine ab_iload_n (i := 0) d_Integer_numberOfTrailingZeros_75 rfl rfl ?_
            refine ab_iconst (v := 1) d_Integer_numberOfTrailingZeros_76 rfl ?_
            refine ab_iushr (v := (ab_ushr (ab_ushr (ab_ushr (ab_ushr ((v0 ^^^ (-1)) &&& (v0 - 1)) 8) 4) 2) 1)) d_Integer_numberOfTrailingZeros_77 rfl ?_
            refine ab_iadd d_Integer_numberOfTrailingZeros_78 ?_
            exact ab_iret (ty := .int) d_Integer_numberOfTrailingZeros_79 rfl rfl h
    · have h := h.2 c2
      refine ab_iinc (i := 1) (v := (1 + 16)) d_Integer_numberOfTrailingZeros_26 rfl rfl (by decide) (Or.inr rfl) ?_
      refine ab_iload_n (i := 0) d_Integer_numberOfTrailingZeros_29 rfl rfl ?_
      refine ab_bipush (v := 16) d_Integer_numberOfTrailingZeros_30 rfl ?_
      refine ab_iushr (v := (ab_ushr ((v0 ^^^ (-1)) &&& (v0 - 1)) 16)) d_Integer_numberOfTrailingZeros_32 rfl ?_
      refine ab_istore_n (i := 0) d_Integer_numberOfTrailingZeros_33 rfl (by decide) (Or.inl rfl) ?_
      refine ab_iload_n (i := 0) d_Integer_numberOfTrailingZeros_34 rfl rfl ?_
      refine ab_sipush (v := 256) d_Integer_numberOfTrailingZeros_35 rfl ?_
      refine ab_icmp_le (tgt := 49) d_Integer_numberOfTrailingZeros_38 (by decide) (fun c10 => ?_) (fun c10 => ?_)
      · have h := h.1 c10
        refine ab_iload_n (i := 0) d_Integer_numberOfTrailingZeros_49 rfl rfl ?_
        refine ab_bipush (v := 16) d_Integer_numberOfTrailingZeros_50 rfl ?_
        refine ab_icmp_le (tgt := 62) d_Integer_numberOfTrailingZeros_52 (by decide) (fun c11 => ?_) (fun c11 => ?_)
        · have h := h.1 c11
          refine ab_iload_n (i := 0) d_Integer_numberOfTrailingZeros_62 rfl rfl ?_
          refine ab_iconst (v := 4) d_Integer_numberOfTrailingZeros_63 rfl ?_
          refine ab_icmp_le (tgt := 74) d_Integer_numberOfTrailingZeros_64 (by decide) (fun c12 => ?_) (fun c12 => ?_)
          · have h := h.1 c12
            refine ab_iload_n (i := 1) d_Integer_numberOfTrailingZeros_74 rfl rfl ?_
            refine ab_iload_n (i := 0) d_Integer_numberOfTrailingZeros_75 rfl rfl ?_
            refine ab_iconst (v := 1) d_Integer_numberOfTrailingZeros_76 rfl ?_
            refine ab_iushr (v := (ab_ushr (ab_ushr ((v0 ^^^ (-1)) &&& (v0 - 1)) 16) 1)) d_Integer_numberOfTrailingZeros_77 rfl ?_
            refine ab_iadd d_Integer_numberOfTrailingZeros_78 ?_
            exact ab_iret (ty := .int) d_Integer_numberOfTrailingZeros_79 rfl rfl h
          · have h := h.2 c12
            refine ab_iinc (i := 1) (v := ((1 + 16) + 2)) d_Integer_numberOfTrailingZeros_67 rfl rfl (by decide) (Or.inr rfl) ?_
            refine ab_iload_n (i := 0) d_Integer_numberOfTrailingZeros_70 rfl rfl ?_
            refine ab_iconst (v := 2) d_Integer_numberOfTrailingZeros_71 rfl ?_
            refine ab_iushr (v := (ab_ushr (ab_ushr ((v0 ^^^ (-1)) &&& (v0 - 1)) 16) 2)) d_Integer_numberOfTrailingZeros_72 rfl ?_
            refine ab_istore_n (i := 0) d_Integer_numberOfTrailingZeros_73 rfl (by decide) (Or.inl rfl) ?_
            refine ab_iload_n (i := 1) d_Integer_numberOfTrailingZeros_74 rfl rfl ?_
            refine ab_iload_n (i := 0) d_Integer_numberOfTrailingZeros_75 rfl rfl ?_
            refine ab_iconst (v := 1) d_Integer_numberOfTrailingZeros_76 rfl ?_
            refine ab_iushr (v := (ab_ushr (ab_ushr (ab_ushr ((v0 ^^^ (-1)) &&& (v0 - 1)) 16) 2) 1)) d_Integer_numberOfTrailingZeros_77 rfl ?_
            refine ab_iadd d_Integer_numberOfTrailingZeros_78 ?_
            exact ab_iret (ty := .int) d_Integer_numberOfTrailingZeros_79 rfl rfl h
        · have h := h.2 c11
          refine ab_iinc (i := 1) (v := ((1 + 16) + 4)) d_Integer_numberOfTrailingZeros_55 rfl rfl (by decide) (Or.inr rfl) ?_
          refine ab_iload_n (i := 0) d_Integer_numberOfTrailingZeros_58 rfl rfl ?_
          refine ab_iconst (v := 4) d_Integer_numberOfTrailingZeros_59 rfl ?_
          refine ab_iushr (v := (ab_ushr (ab_ushr ((v0 ^^^ (-1)) &&& (v0 - 1)) 16) 4)) d_Integer_numberOfTrailingZeros_60 rfl ?_
          refine ab_istore_n (i := 0) d_Integer_numberOfTrailingZeros_61 rfl (by decide) (Or.inl rfl) ?_
          refine ab_iload_n (i := 0) d_Integer_numberOfTrailingZeros_62 rfl rfl ?_
          refine ab_iconst (v := 4) d_Integer_numberOfTrailingZeros_63 rfl ?_
          refine ab_icmp_le (tgt := 74) d_Integer_numberOfTrailingZeros_64 (by decide) (fun c13 => ?_) (fun c13 => ?_)
          · have h := h.1 c13
            refine ab_iload_n (i := 1) d_Integer_numberOfTrailingZeros_74 rfl rfl ?_
            refine ab_iload_n (i := 0) d_Integer_numberOfTrailingZeros_75 rfl rfl ?_
            refine ab_iconst (v := 1) d_Integer_numberOfTrailingZeros_76 rfl ?_
            refine ab_iushr (v := (ab_ushr (ab_ushr (ab_ushr ((v0 ^^^ (-1)) &&& (v0 - 1)) 16) 4) 1)) d_Integer_numberOfTrailingZeros_77 rfl ?_
            refine ab_iadd d_Integer_numberOfTrailingZeros_78 ?_
            exact ab_iret (ty := .int) d_Integer_numberOfTrailingZeros_79 rfl rfl h
          · have h := h.2 c13
            refine ab_iinc (i := 1) (v := (((1 + 16) + 4) + 2)) d_Integer_numberOfTrailingZeros_67 rfl rfl (by decide) (Or.inr rfl) ?_
            refine ab_iload_n (i := 0) d_Integer_numberOfTrailingZeros_70 rfl rfl ?_
            refine ab_iconst (v := 2) d_Integer_numberOfTrailingZeros_71 rfl ?_
            refine ab_iushr (v := (ab_ushr (ab_ushr (ab_ushr ((v0 ^^^ (-1)) &&& (v0 - 1)) 16) 4) 2)) d_Integer_numberOfTrailingZeros_72 rfl ?_
            refine ab_istore_n (i := 0) d_Integer_numberOfTrailingZeros_73 rfl (by decide) (Or.inl rfl) ?_
            refine ab_iload_n (i := 1) d_Integer_numberOfTrailingZeros_74 rfl rfl ?_
            refine ab_iload_n (i := 0) d_Integer_numberOfTrailingZeros_75 rfl rfl ?_
            refine ab_iconst (v := 1) d_Integer_numberOfTrailingZeros_76 rfl ?_
            refine ab_iushr (v := (ab_ushr (ab_ushr (ab_ushr (ab_ushr ((v0 ^^^ (-1)) &&& (v0 - 1)) 16) 4) 2) 1)) d_Integer_numberOfTrailingZeros_77 rfl ?_
            refine ab_iadd d_Integer_numberOfTrailingZeros_78 ?_
            exact ab_iret (ty := .int) d_Integer_numberOfTrailingZeros_79 rfl rfl h
      · have h := h.2 c10
        refine ab_iinc (i := 1) (v := ((1 + 16) + 8)) d_Integer_numberOfTrailingZeros_41 rfl rfl (by decide) (Or.inr rfl) ?_
        refine ab_iload_n (i := 0) d_Integer_numberOfTrailingZeros_44 rfl rfl ?_
        refine ab_bipush (v := 8) d_Integer_numberOfTrailingZeros_45 rfl ?_
        refine ab_iushr (v := (ab_ushr (ab_ushr ((v0 ^^^ (-1)) &&& (v0 - 1)) 16) 8)) d_Integer_numberOfTrailingZeros_47 rfl ?_
        refine ab_istore_n (i := 0) d_Integer_numberOfTrailingZeros_48 rfl (by decide) (Or.inl rfl) ?_
        refine ab_iload_n (i := 0) d_Integer_numberOfTrailingZeros_49 rfl rfl ?_
        refine ab_bipush (v := 16) d_Integer_numberOfTrailingZeros_50 rfl ?_
        refine ab_icmp_le (tgt := 62) d_Integer_numberOfTrailingZeros_52 (by decide) (fun c14 => ?_) (fun c14 => ?_)
        · have h := h.1 c14
          refine ab_iload_n (i := 0) d_Integer_numberOfTrailingZeros_62 rfl rfl ?_
          refine ab_iconst (v := 4) d_Integer_numberOfTrailingZeros_63 rfl ?_
          refine ab_icmp_le (tgt := 74) d_Integer_numberOfTrailingZeros_64 (by decide) (fun c15 => ?_) (fun c15 => ?_)
          · have h := h.1 c15
            refine ab_iload_n (i := 1) d_Integer_numberOfTrailingZeros_74 rfl rfl ?_
            refine ab_iload_n (i := 0) d_Integer_numberOfTrailingZeros_75 rfl rfl ?_
            refine ab_iconst (v := 1) d_Integer_numberOfTrailingZeros_76 rfl ?_
            refine ab_iushr (v := (ab_ushr (ab_ushr (ab_ushr ((v0 ^^^ (-1)) &&& (v0 - 1)) 16) 8) 1)) d_Integer_numberOfTrailingZeros_77 rfl ?_
            refine ab_iadd d_Integer_numberOfTrailingZeros_78 ?_
            exact ab_iret (ty := .int) d_Integer_numberOfTrailingZeros_79 rfl rfl h
          · have h := h.2 c15
            refine ab_iinc (i := 1) (v := (((1 + 16) + 8) + 2)) d_Integer_numberOfTrailingZeros_67 rfl rfl (by decide) (Or.inr rfl) ?_
            refine ab_iload_n (i := 0) d_Integer_numberOfTrailingZeros_70 rfl rfl ?_
            refine ab_iconst (v := 2) d_Integer_numberOfTrailingZeros_71 rfl ?_
            refine ab_iushr (v := (ab_ushr (ab_ushr (ab_ushr ((v0 ^^^ (-1)) &&& (v0 - 1)) 16) 8) 2)) d_Integer_numberOfTrailingZeros_72 rfl ?_
            refine ab_istore_n (i := 0) d_Integer_numberOfTrailingZeros_73 rfl (by decide) (Or.inl rfl) ?_
            refine ab_iload_n (i := 1) d_Integer_numberOfTrailingZeros_74 rfl rfl ?_
            refine ab_iload_n (i := 0) d_Integer_numberOfTrailingZeros_75 rfl rfl ?_
            refine ab_iconst (v := 1) d_Integer_numberOfTrailingZeros_76 rfl ?_
            refine ab_iushr (v := (ab_ushr (ab_ushr (ab_ushr (ab_ushr ((v0 ^^^ (-1)) &&& (v0 - 1)) 16) 8) 2) 1)) d_Integer_numberOfTrailingZeros_77 rfl ?_
            refine ab_iadd d_Integer_numberOfTrailingZeros_78 ?_
            exact ab_iret (ty := .int) d_Integer_numberOfTrailingZeros_79 rfl rfl h
        · have h := h.2 c14
          refine ab_iinc (i := 1) (v := (((1 + 16) + 8) + 4)) d_Integer_numberOfTrailingZeros_55 rfl rfl (by decide) (Or.inr rfl) ?_
          refine ab_iload_n (i := 0) d_Integer_numberOfTrailingZeros_58 rfl rfl ?_
          refine ab_iconst (v := 4) d_Integer_numberOfTrailingZeros_59 rfl ?_
          refine ab_iushr (v := (ab_ushr (ab_ushr (ab_ushr ((v0 ^^^ (-1)) &&& (v0 - 1)) 16) 8) 4)) d_Integer_numberOfTrailingZeros_60 rfl ?_
          refine ab_istore_n (i := 0) d_Integer_numberOfTrailingZeros_61 rfl (by decide) (Or.inl rfl) ?_
          refine ab_iload_n (i := 0) d_Integer_numberOfTrailingZeros_62 rfl rfl ?_
          refine ab_iconst (v := 4) d_Integer_numberOfTrailingZeros_63 rfl ?_
          refine ab_icmp_le (tgt := 74) d_Integer_numberOfTrailingZeros_64 (by decide) (fun c16 => ?_) (fun c16 => ?_)
          · have h := h.1 c16
            refine ab_iload_n (i := 1) d_Integer_numberOfTrailingZeros_74 rfl rfl ?_
            refine ab_iload_n (i := 0) d_Integer_numberOfTrailingZeros_75 rfl rfl ?_
            refine ab_iconst (v := 1) d_Integer_numberOfTrailingZeros_76 rfl ?_
            refine ab_iushr (v := (ab_ushr (ab_ushr (ab_ushr (ab_ushr ((v0 ^^^ (-1)) &&& (v0 - 1)) 16) 8) 4) 1)) d_Integer_numberOfTrailingZeros_77 rfl ?_
            refine ab_iadd d_Integer_numberOfTrailingZeros_78 ?_
            exact ab_iret (ty := .int) d_Integer_numberOfTrailingZeros_79 rfl rfl h
          · have h := h.2 c16
            refine ab_iinc (i := 1) (v := ((((1 + 16) + 8) + 4) + 2)) d_Integer_numberOfTrailingZeros_67 rfl rfl (by decide) (Or.inr rfl) ?_
            refine ab_iload_n (i := 0) d_Integer_numberOfTrailingZeros_70 rfl rfl ?_
            refine ab_iconst (v := 2) d_Integer_numberOfTrailingZeros_71 rfl ?_
            refine ab_iushr (v := (ab_ushr (ab_ushr (ab_ushr (ab_ushr ((v0 ^^^ (-1)) &&& (v0 - 1)) 16) 8) 4) 2)) d_Integer_numberOfTrailingZeros_72 rfl ?_
            refine ab_istore_n (i := 0) d_Integer_numberOfTrailingZeros_73 rfl (by decide) (Or.inl rfl) ?_
            refine ab_iload_n (i := 1) d_Integer_numberOfTrailingZeros_74 rfl rfl ?_
            refine ab_iload_n (i := 0) d_Integer_numberOfTrailingZeros_75 rfl rfl ?_
            refine ab_iconst (v := 1) d_Integer_numberOfTrailingZeros_76 rfl ?_
            refine ab_iushr (v := (ab_ushr (ab_ushr (ab_ushr (ab_ushr (ab_ushr ((v0 ^^^ (-1)) &&& (v0 - 1)) 16) 8) 4) 2) 1)) d_Integer_numberOfTrailingZeros_77 rfl ?_
            refine ab_iadd d_Integer_numberOfTrailingZeros_78 ?_
            exact ab_iret (ty := .int) d_Integer_numberOfTrailingZeros_79 rfl rfl h
  · have h := h.2 c1
    refine ab_iload_n (i := 0) d_Integer_numberOfTrailingZeros_12 rfl rfl ?_
    refine ab_bipush (v := 32) d_Integer_numberOfTrailingZeros_13 rfl ?_
    refine ab_iand d_Integer_numberOfTrailingZeros_15 ?_
    exact ab_iret (ty := .int) d_Integer_numberOfTrailingZeros_16 rfl rfl h
