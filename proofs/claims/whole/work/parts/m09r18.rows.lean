theorem r_Forest_grow_0_0 {w : ab_Wd} {d n nc ns : Nat} {I : Nat → Nat → Int32} {L : Nat → Nat → Int64} {res : ab_Re} (hT : w.1.stackTraces = false) (v2 : Int32) (hc : nc ≤ res.2.2.2.2.2.1) (hs : ns ≤ res.2.2.2.2.2.2)
    (h : ab_E w (d + 1) mt_Forest_grow 25 [.ref kx_trialNet, .ref kx_now_cables, .int v2, .int 0, .null] [] ((ab_up (ab_up (ab_up (ab_up I kx_trialNet 1 0) kx_trialNet 2 0) kx_trialNet 3 0) kx_trialNet 4 (I kx_now_cables 0)), L, ab_RR, n, nc, ns) res) : ab_E w (d + 1) mt_Forest_grow 0 [.ref kx_trialNet, .ref kx_now_cables, .int v2, .null, .null] [] (I, L, ab_RR, n, nc, ns) res := by
  refine ab_aload_n (i := 0) d_Forest_grow_0 rfl rfl ?_
  refine ab_iconst (v := 0) d_Forest_grow_1 rfl ?_
  refine ab_putI (ci := 2) (k := 1) d_Forest_grow_2 v_331 rfl (by decide) (by decide) rfl (Or.inl rfl) rfl rfl ?_
  refine ab_aload_n (i := 0) d_Forest_grow_5 rfl rfl ?_
  refine ab_iconst (v := 0) d_Forest_grow_6 rfl ?_
  refine ab_putI (ci := 2) (k := 2) d_Forest_grow_7 v_334 rfl (by decide) (by decide) rfl (Or.inl rfl) rfl rfl ?_
  refine ab_aload_n (i := 0) d_Forest_grow_10 rfl rfl ?_
  refine ab_iconst (v := 0) d_Forest_grow_11 rfl ?_
  refine ab_putI (ci := 2) (k := 3) d_Forest_grow_12 v_336 rfl (by decide) (by decide) rfl (Or.inl rfl) rfl rfl ?_
  refine ab_aload_n (i := 0) d_Forest_grow_15 rfl rfl ?_
  refine ab_aload_n (i := 1) d_Forest_grow_16 rfl rfl ?_
  refine ab_getI (ci := 1) (k := 0) d_Forest_grow_17 v_187 rfl (by decide) (by decide) rfl ?_
  refine ab_putI (ci := 2) (k := 4) d_Forest_grow_20 v_338 rfl (by decide) (by decide) rfl (Or.inl rfl) rfl rfl ?_
  refine ab_iconst (v := 0) d_Forest_grow_23 rfl ?_
  refine ab_istore_n (i := 3) d_Forest_grow_24 rfl (by decide) (Or.inr rfl) ?_
  exact h
theorem r_Forest_grow_0_25 {w : ab_Wd} {d n nc ns : Nat} {I : Nat → Nat → Int32} {L : Nat → Nat → Int64} {res : ab_Re} (hT : w.1.stackTraces = false) (v2 : Int32) (v3 : Int32) (hc : nc ≤ res.2.2.2.2.2.1) (hs : ns ≤ res.2.2.2.2.2.2)
    (h : ((10 ≤ v3 → (ab_E w (d + 1) mt_Forest_grow 46 [.ref kx_trialNet, .ref kx_now_cables, .int v2, .int 0, .null] [] (I, L, ab_RR, n, nc, ns) res)) ∧ (¬ 10 ≤ v3 → ((vp_in v3 10) ∧ ab_E w (d + 1) mt_Forest_grow 25 [.ref kx_trialNet, .ref kx_now_cables, .int v2, .int (v3 + 1), .null] [] ((ab_up I kx_trialNet_piece v3.toNatClampNeg v3), L, ab_RR, n, nc, ns) res)))) : ab_E w (d + 1) mt_Forest_grow 25 [.ref kx_trialNet, .ref kx_now_cables, .int v2, .int v3, .null] [] (I, L, ab_RR, n, nc, ns) res := by
  refine ab_iload_n (i := 3) d_Forest_grow_25 rfl rfl ?_
  refine ab_bipush (v := 10) d_Forest_grow_26 rfl ?_
  refine ab_icmp_ge (tgt := 44) d_Forest_grow_28 (by decide) (fun c1 => ?_) (fun c1 => ?_)
  · have h := h.1 c1
    refine ab_iconst (v := 0) d_Forest_grow_44 rfl ?_
    refine ab_istore_n (i := 3) d_Forest_grow_45 rfl (by decide) (Or.inr rfl) ?_
    exact h
  · have h := h.2 c1
    refine ab_aload_n (i := 0) d_Forest_grow_31 rfl rfl ?_
    refine ab_getR (ci := 2) (k := 5) (j := kx_trialNet_piece) d_Forest_grow_32 v_340 rfl (by decide) (by decide) rfl r_kx_trialNet_5 ?_
    refine ab_iload_n (i := 3) d_Forest_grow_35 rfl rfl ?_
    refine ab_iload_n (i := 3) d_Forest_grow_36 rfl rfl ?_
    have g2 := h.1; have h := h.2
    refine ab_iast d_Forest_grow_37 rfl rfl g2 ?_
    refine ab_iinc (i := 3) (v := (v3 + 1)) d_Forest_grow_38 rfl rfl (by decide) (Or.inr rfl) ?_
    refine ab_goto (tgt := 25) d_Forest_grow_41 (by decide) ?_
    exact h
theorem r_Forest_grow_0_46 {w : ab_Wd} {d n nc ns : Nat} {I : Nat → Nat → Int32} {L : Nat → Nat → Int64} {res : ab_Re} (hT : w.1.stackTraces = false) (v2 : Int32) (v3 : Int32) (hc : nc ≤ res.2.2.2.2.2.1) (hs : ns ≤ res.2.2.2.2.2.2)
    (h : (((I kx_now_cables 1) ≤ v3 → (res = (.inl none, (I, L, ab_RR, n, nc, ns)))) ∧ (¬ (I kx_now_cables 1) ≤ v3 → ((9 ≤ (I kx_trialNet 1) → (res = (.inl none, (I, L, ab_RR, n, nc, ns)))) ∧ (¬ 9 ≤ (I kx_trialNet 1) → ((vp_in v3 24) ∧ ((¬ ((v2 >>> ((I kx_now_cables_order v3.toNatClampNeg) &&& 31)) &&& 1) = 1 → (ab_E w (d + 1) mt_Forest_grow 46 [.ref kx_trialNet, .ref kx_now_cables, .int v2, .int (v3 + 1), .null] [] (I, L, ab_RR, n, nc, ns) res)) ∧ (((v2 >>> ((I kx_now_cables_order v3.toNatClampNeg) &&& 31)) &&& 1) = 1 → ((vp_in (I kx_now_cables_order v3.toNatClampNeg) 24) ∧ ∃ (r6 : Int32) (I7 : Nat → Nat → Int32), ab_C w d mt_K_unite [.ref kx_trialNet_piece, .int (I kx_now_cables_first (I kx_now_cables_order v3.toNatClampNeg).toNatClampNeg), .int (I kx_now_cables_second (I kx_now_cables_order v3.toNatClampNeg).toNatClampNeg)] (I, L, ab_RR, n, nc, ns) (.inl (some (.int r6)), (I7, L, ab_RR, n, nc, ns)) ∧ ((r6 = 0 → (ab_E w (d + 1) mt_Forest_grow 46 [.ref kx_trialNet, .ref kx_now_cables, .int v2, .int (v3 + 1), .null] [] (I7, L, ab_RR, n, nc, ns) res)) ∧ (¬ r6 = 0 → ((vp_in (I7 kx_trialNet 1) 9) ∧ ab_E w (d + 1) mt_Forest_grow 46 [.ref kx_trialNet, .ref kx_now_cables, .int v2, .int (v3 + 1), .null] [] ((ab_up (ab_up (ab_up (ab_up (ab_up I7 kx_trialNet_order (I7 kx_trialNet 1).toNatClampNeg (I kx_now_cables_order v3.toNatClampNeg)) kx_trialNet 1 ((I7 kx_trialNet 1) + 1)) kx_trialNet 2 ((I7 kx_trialNet 2) ||| ((1 : Int32) <<< ((I kx_now_cables_order v3.toNatClampNeg) &&& 31)))) kx_trialNet 3 ((I7 kx_trialNet 3) + (I7 kx_now_cables_price (I kx_now_cables_order v3.toNatClampNeg).toNatClampNeg))) kx_trialNet 4 ((I7 kx_trialNet 4) - 1)), L, ab_RR, n, nc, ns) res)))))))))))) : ab_E w (d + 1) mt_Forest_grow 46 [.ref kx_trialNet, .ref kx_now_cables, .int v2, .int v3, .null] [] (I, L, ab_RR, n, nc, ns) res := by
  refine ab_iload_n (i := 3) d_Forest_grow_46 rfl rfl ?_
  refine ab_aload_n (i := 1) d_Forest_grow_47 rfl rfl ?_
  refine ab_getI (ci := 1) (k := 1) d_Forest_grow_48 v_195 rfl (by decide) (by decide) rfl ?_
  refine ab_icmp_ge (tgt := 174) d_Forest_grow_51 (by decide) (fun c1 => ?_) (fun c1 => ?_)
  · have h := h.1 c1
    exact ab_vret d_Forest_grow_174 rfl h
  · have h := h.2 c1
    refine ab_aload_n (i := 0) d_Forest_grow_54 rfl rfl ?_
    refine ab_getI (ci := 2) (k := 1) d_Forest_grow_55 v_331 rfl (by decide) (by decide) rfl ?_
    refine ab_aload_n (i := 0) d_Forest_grow_58 rfl rfl ?_
    refine ab_getR (ci := 2) (k := 0) (j := kx_trialNet_order) d_Forest_grow_59 v_328 rfl (by decide) (by decide) rfl r_kx_trialNet_0 ?_
    refine ab_alen (v := 9) d_Forest_grow_62 (by decide) (by decide) rfl ?_
    refine ab_icmp_ge (tgt := 174) d_Forest_grow_63 (by decide) (fun c2 => ?_) (fun c2 => ?_)
    · have h := h.1 c2
      exact ab_vret d_Forest_grow_174 rfl h
    · have h := h.2 c2
      refine ab_aload_n (i := 1) d_Forest_grow_66 rfl rfl ?_
      refine ab_getR (ci := 1) (k := 7) (j := kx_now_cables_order) d_Forest_grow_67 v_231 rfl (by decide) (by decide) rfl r_kx_now_cables_7 ?_
      refine ab_iload_n (i := 3) d_Forest_grow_70 rfl rfl ?_
      have g3 := h.1; have h := h.2
      refine ab_iald d_Forest_grow_71 rfl rfl g3 ?_
      refine ab_istore (i := 4) d_Forest_grow_72 (by decide) (Or.inr rfl) ?_
      refine ab_iload_n (i := 2) d_Forest_grow_74 rfl rfl ?_
      refine ab_iload (i := 4) d_Forest_grow_75 rfl ?_
      refine ab_ishr d_Forest_grow_77 ?_
      refine ab_iconst (v := 1) d_Forest_grow_78 rfl ?_
      refine ab_iand d_Forest_grow_79 ?_
      refine ab_iconst (v := 1) d_Forest_grow_80 rfl ?_
      refine ab_icmp_ne (tgt := 168) d_Forest_grow_81 (by decide) (fun c4 => ?_) (fun c4 => ?_)
      · have h := h.1 c4
        refine ab_iinc (i := 3) (v := (v3 + 1)) d_Forest_grow_168 rfl rfl (by decide) (Or.inr rfl) ?_
        refine ab_goto (tgt := 46) d_Forest_grow_171 (by decide) ?_
        refine ab_drop 4 ?_
        exact h
      · have h := h.2 c4
        refine ab_aload_n (i := 0) d_Forest_grow_84 rfl rfl ?_
        refine ab_getR (ci := 2) (k := 5) (j := kx_trialNet_piece) d_Forest_grow_85 v_340 rfl (by decide) (by decide) rfl r_kx_trialNet_5 ?_
        refine ab_aload_n (i := 1) d_Forest_grow_88 rfl rfl ?_
        refine ab_getR (ci := 1) (k := 3) (j := kx_now_cables_first) d_Forest_grow_89 v_207 rfl (by decide) (by decide) rfl r_kx_now_cables_3 ?_
        refine ab_iload (i := 4) d_Forest_grow_92 rfl ?_
        have g5 := h.1; have h := h.2
        refine ab_iald d_Forest_grow_94 rfl rfl g5 ?_
        refine ab_aload_n (i := 1) d_Forest_grow_95 rfl rfl ?_
        refine ab_getR (ci := 1) (k := 4) (j := kx_now_cables_second) d_Forest_grow_96 v_214 rfl (by decide) (by decide) rfl r_kx_now_cables_4 ?_
        refine ab_iload (i := 4) d_Forest_grow_99 rfl ?_
        refine ab_iald d_Forest_grow_101 rfl rfl g5 ?_
        obtain ⟨r6, I7, hC, h⟩ := h
        refine ab_callS (me2 := mt_K_unite) (as := [.ref kx_trialNet_piece, .int (I kx_now_cables_first (I kx_now_cables_order v3.toNatClampNeg).toNatClampNeg), .int (I kx_now_cables_second (I kx_now_cables_order v3.toNatClampNeg).toNatClampNeg)]) (st := []) (rv := (some (.int r6))) (M2 := (I7, L, ab_RR, n, nc, ns)) d_Forest_grow_102 ce_K_unite ⟨v_445, Or.inr ⟨_, u_444⟩⟩ (Nat.le_of_ble_eq_true rfl) hC (Nat.le_refl _) (Nat.le_refl _) hc hs (fun j h9 => by cases h9) (fun _ _ => rfl) ?_
        show ab_E w (d + 1) mt_Forest_grow 105 [.ref kx_trialNet, .ref kx_now_cables, .int v2, .int v3, .int (I kx_now_cables_order v3.toNatClampNeg)] [.int r6] (I7, L, ab_RR, n, nc, ns) res
        refine ab_if_eq (tgt := 168) d_Forest_grow_105 (by decide) (fun c8 => ?_) (fun c8 => ?_)
        · have h := h.1 c8
          refine ab_iinc (i := 3) (v := (v3 + 1)) d_Forest_grow_168 rfl rfl (by decide) (Or.inr rfl) ?_
          refine ab_goto (tgt := 46) d_Forest_grow_171 (by decide) ?_
          refine ab_drop 4 ?_
          exact h
        · have h := h.2 c8
          refine ab_aload_n (i := 0) d_Forest_grow_108 rfl rfl ?_
          refine ab_getR (ci := 2) (k := 0) (j := kx_trialNet_order) d_Forest_grow_109 v_328 rfl (by decide) (by decide) rfl r_kx_trialNet_0 ?_
          refine ab_aload_n (i := 0) d_Forest_grow_112 rfl rfl ?_
          refine ab_getI (ci := 2) (k := 1) d_Forest_grow_113 v_331 rfl (by decide) (by decide) rfl ?_
          refine ab_iload (i := 4) d_Forest_grow_116 rfl ?_
          have g9 := h.1; have h := h.2
          refine ab_iast d_Forest_grow_118 rfl rfl g9 ?_
          refine ab_aload_n (i := 0) d_Forest_grow_119 rfl rfl ?_
          refine ab_dupr d_Forest_grow_120 ?_
          refine ab_getI (ci := 2) (k := 1) d_Forest_grow_121 v_331 rfl (by decide) (by decide) rfl ?_
          refine ab_iconst (v := 1) d_Forest_grow_124 rfl ?_
          refine ab_iadd d_Forest_grow_125 ?_
          refine ab_putI (ci := 2) (k := 1) d_Forest_grow_126 v_331 rfl (by decide) (by decide) rfl (Or.inl rfl) rfl rfl ?_
          refine ab_aload_n (i := 0) d_Forest_grow_129 rfl rfl ?_
          refine ab_dupr d_Forest_grow_130 ?_
          refine ab_getI (ci := 2) (k := 2) d_Forest_grow_131 v_334 rfl (by decide) (by decide) rfl ?_
          refine ab_iconst (v := 1) d_Forest_grow_134 rfl ?_
          refine ab_iload (i := 4) d_Forest_grow_135 rfl ?_
          refine ab_ishl d_Forest_grow_137 ?_
          refine ab_ior d_Forest_grow_138 ?_
          refine ab_putI (ci := 2) (k := 2) d_Forest_grow_139 v_334 rfl (by decide) (by decide) rfl (Or.inl rfl) rfl rfl ?_
          refine ab_aload_n (i := 0) d_Forest_grow_142 rfl rfl ?_
          refine ab_dupr d_Forest_grow_143 ?_
          refine ab_getI (ci := 2) (k := 3) d_Forest_grow_144 v_336 rfl (by decide) (by decide) rfl ?_
          refine ab_aload_n (i := 1) d_Forest_grow_147 rfl rfl ?_
          refine ab_getR (ci := 1) (k := 5) (j := kx_now_cables_price) d_Forest_grow_148 v_221 rfl (by decide) (by decide) rfl r_kx_now_cables_5 ?_
          refine ab_iload (i := 4) d_Forest_grow_151 rfl ?_
          refine ab_iald d_Forest_grow_153 rfl rfl g5 ?_
          refine ab_iadd d_Forest_grow_154 ?_
          refine ab_putI (ci := 2) (k := 3) d_Forest_grow_155 v_336 rfl (by decide) (by decide) rfl (Or.inl rfl) rfl rfl ?_
          refine ab_aload_n (i := 0) d_Forest_grow_158 rfl rfl ?_
          refine ab_dupr d_Forest_grow_159 ?_
          refine ab_getI (ci := 2) (k := 4) d_Forest_grow_160 v_338 rfl (by decide) (by decide) rfl ?_
          refine ab_iconst (v := 1) d_Forest_grow_163 rfl ?_
          refine ab_isub d_Forest_grow_164 ?_
          refine ab_putI (ci := 2) (k := 4) d_Forest_grow_165 v_338 rfl (by decide) (by decide) rfl (Or.inl rfl) rfl rfl ?_
          refine ab_iinc (i := 3) (v := (v3 + 1)) d_Forest_grow_168 rfl rfl (by decide) (Or.inr rfl) ?_
          refine ab_goto (tgt := 46) d_Forest_grow_171 (by decide) ?_
          refine ab_drop 4 ?_
          exact h
theorem r_Cables_endingAt_0 {w : ab_Wd} {d n nc ns : Nat} {I : Nat → Nat → Int32} {L : Nat → Nat → Int64} {res : ab_Re} (hT : w.1.stackTraces = false) (v1 : Int32) (hc : nc ≤ res.2.2.2.2.2.1) (hs : ns ≤ res.2.2.2.2.2.2)
    (h : ab_E w d mt_Cables_endingAt 4 [.ref kx_now_cables, .int v1, .int 0, .int 0] [] (I, L, ab_RR, n, nc, ns) res) : ab_E w d mt_Cables_endingAt 0 [.ref kx_now_cables, .int v1, .null, .null] [] (I, L, ab_RR, n, nc, ns) res := by
  refine ab_iconst (v := 0) d_Cables_endingAt_0 rfl ?_
  refine ab_istore_n (i := 2) d_Cables_endingAt_1 rfl (by decide) (Or.inr rfl) ?_
  refine ab_iconst (v := 0) d_Cables_endingAt_2 rfl ?_
  refine ab_istore_n (i := 3) d_Cables_endingAt_3 rfl (by decide) (Or.inr rfl) ?_
  exact h
theorem r_Cables_endingAt_4 {w : ab_Wd} {d n nc ns : Nat} {I : Nat → Nat → Int32} {L : Nat → Nat → Int64} {res : ab_Re} (hT : w.1.stackTraces = false) (v1 : Int32) (v2 : Int32) (v3 : Int32) (hc : nc ≤ res.2.2.2.2.2.1) (hs : ns ≤ res.2.2.2.2.2.2)
    (h : (((I kx_now_cables 1) ≤ v3 → (res = (.inl (some (.int v2)), (I, L, ab_RR, n, nc, ns)))) ∧ (¬ (I kx_now_cables 1) ≤ v3 → ((vp_in v3 24) ∧ (((I kx_now_cables_first v3.toNatClampNeg) = v1 → (ab_E w d mt_Cables_endingAt 4 [.ref kx_now_cables, .int v1, .int (v2 ||| ((1 : Int32) <<< (v3 &&& 31))), .int (v3 + 1)] [] (I, L, ab_RR, n, nc, ns) res)) ∧ (¬ (I kx_now_cables_first v3.toNatClampNeg) = v1 → ((¬ (I kx_now_cables_second v3.toNatClampNeg) = v1 → (ab_E w d mt_Cables_endingAt 4 [.ref kx_now_cables, .int v1, .int v2, .int (v3 + 1)] [] (I, L, ab_RR, n, nc, ns) res)) ∧ ((I kx_now_cables_second v3.toNatClampNeg) = v1 → (ab_E w d mt_Cables_endingAt 4 [.ref kx_now_cables, .int v1, .int (v2 ||| ((1 : Int32) <<< (v3 &&& 31))), .int (v3 + 1)] [] (I, L, ab_RR, n, nc, ns) res))))))))) : ab_E w d mt_Cables_endingAt 4 [.ref kx_now_cables, .int v1, .int v2, .int v3] [] (I, L, ab_RR, n, nc, ns) res := by
  refine ab_iload_n (i := 3) d_Cables_endingAt_4 rfl rfl ?_
  refine ab_aload_n (i := 0) d_Cables_endingAt_5 rfl rfl ?_
  refine ab_getI (ci := 1) (k := 1) d_Cables_endingAt_6 v_192 rfl (by decide) (by decide) rfl ?_
  refine ab_icmp_ge (tgt := 44) d_Cables_endingAt_9 (by decide) (fun c1 => ?_) (fun c1 => ?_)
  · have h := h.1 c1
    refine ab_iload_n (i := 2) d_Cables_endingAt_44 rfl rfl ?_
    exact ab_iret (ty := .int) d_Cables_endingAt_45 rfl rfl h
  · have h := h.2 c1
    refine ab_aload_n (i := 0) d_Cables_endingAt_12 rfl rfl ?_
    refine ab_getR (ci := 1) (k := 3) (j := kx_now_cables_first) d_Cables_endingAt_13 v_204 rfl (by decide) (by decide) rfl r_kx_now_cables_3 ?_
    refine ab_iload_n (i := 3) d_Cables_endingAt_16 rfl rfl ?_
    have g2 := h.1; have h := h.2
    refine ab_iald d_Cables_endingAt_17 rfl rfl g2 ?_
    refine ab_iload_n (i := 1) d_Cables_endingAt_18 rfl rfl ?_
    refine ab_icmp_eq (tgt := 32) d_Cables_endingAt_19 (by decide) (fun c3 => ?_) (fun c3 => ?_)
    · have h := h.1 c3
      refine ab_iload_n (i := 2) d_Cables_endingAt_32 rfl rfl ?_
      refine ab_iconst (v := 1) d_Cables_endingAt_33 rfl ?_
      refine ab_iload_n (i := 3) d_Cables_endingAt_34 rfl rfl ?_
      refine ab_ishl d_Cables_endingAt_35 ?_
      refine ab_ior d_Cables_endingAt_36 ?_
      refine ab_istore_n (i := 2) d_Cables_endingAt_37 rfl (by decide) (Or.inr rfl) ?_
      refine ab_iinc (i := 3) (v := (v3 + 1)) d_Cables_endingAt_38 rfl rfl (by decide) (Or.inr rfl) ?_
      refine ab_goto (tgt := 4) d_Cables_endingAt_41 (by decide) ?_
      exact h
    · have h := h.2 c3
      refine ab_aload_n (i := 0) d_Cables_endingAt_22 rfl rfl ?_
      refine ab_getR (ci := 1) (k := 4) (j := kx_now_cables_second) d_Cables_endingAt_23 v_211 rfl (by decide) (by decide) rfl r_kx_now_cables_4 ?_
      refine ab_iload_n (i := 3) d_Cables_endingAt_26 rfl rfl ?_
      refine ab_iald d_Cables_endingAt_27 rfl rfl g2 ?_
      refine ab_iload_n (i := 1) d_Cables_endingAt_28 rfl rfl ?_
      refine ab_icmp_ne (tgt := 38) d_Cables_endingAt_29 (by decide) (fun c4 => ?_) (fun c4 => ?_)
      · have h := h.1 c4
        refine ab_iinc (i := 3) (v := (v3 + 1)) d_Cables_endingAt_38 rfl rfl (by decide) (Or.inr rfl) ?_
        refine ab_goto (tgt := 4) d_Cables_endingAt_41 (by decide) ?_
        exact h
      · have h := h.2 c4
        refine ab_iload_n (i := 2) d_Cables_endingAt_32 rfl rfl ?_
        refine ab_iconst (v := 1) d_Cables_endingAt_33 rfl ?_
        refine ab_iload_n (i := 3) d_Cables_endingAt_34 rfl rfl ?_
        refine ab_ishl d_Cables_endingAt_35 ?_
        refine ab_ior d_Cables_endingAt_36 ?_
        refine ab_istore_n (i := 2) d_Cables_endingAt_37 rfl (by decide) (Or.inr rfl) ?_
        refine ab_iinc (i := 3) (v := (v3 + 1)) d_Cables_endingAt_38 rfl rfl (by decide) (Or.inr rfl) ?_
        refine ab_goto (tgt := 4) d_Cables_endingAt_41 (by decide) ?_
        exact h
theorem r_Likes_countNets_0 {w : ab_Wd} {d n nc ns : Nat} {I : Nat → Nat → Int32} {L : Nat → Nat → Int64} {res : ab_Re} (hT : w.1.stackTraces = false)  (hc : nc ≤ res.2.2.2.2.2.1) (hs : ns ≤ res.2.2.2.2.2.2)
    (h : ab_E w (d + 1) mt_Likes_countNets 2 [.ref kx_likes, .ref kx_now_cables, .int 0, .null, .null, .null, .null] [] (I, L, ab_RR, n, nc, ns) res) : ab_E w (d + 1) mt_Likes_countNets 0 [.ref kx_likes, .ref kx_now_cables, .null, .null, .null, .null, .null] [] (I, L, ab_RR, n, nc, ns) res := by
  refine ab_iconst (v := 0) d_Likes_countNets_0 rfl ?_
  refine ab_istore_n (i := 2) d_Likes_countNets_1 rfl (by decide) (Or.inr rfl) ?_
  exact h
theorem r_Likes_countNets_2 {w : ab_Wd} {d n nc ns : Nat} {I : Nat → Nat → Int32} {L : Nat → Nat → Int64} {res : ab_Re} (hT : w.1.stackTraces = false) (v2 : Int32) (hc : nc ≤ res.2.2.2.2.2.1) (hs : ns ≤ res.2.2.2.2.2.2)
    (h : ((10 ≤ v2 → (∃ (L3 : Nat → Nat → Int64), ab_C w d mt_Likes_clearMatrix [.ref kx_likes] (I, L, ab_RR, n, nc, ns) (.inl none, (I, L3, ab_RR, n, nc, ns)) ∧ ab_E w (d + 1) mt_Likes_countNets 37 [.ref kx_likes, .ref kx_now_cables, .long 1, .null, .int 0, .null, .null] [] (I, L3, ab_RR, n, nc, ns) res)) ∧ (¬ 10 ≤ v2 → ((vp_in v2 10) ∧ ab_E w (d + 1) mt_Likes_countNets 2 [.ref kx_likes, .ref kx_now_cables, .int (v2 + 1), .null, .null, .null, .null] [] ((ab_up (ab_up I kx_likes_before v2.toNatClampNeg v2) kx_likes_behind v2.toNatClampNeg v2), L, ab_RR, n, nc, ns) res)))) : ab_E w (d + 1) mt_Likes_countNets 2 [.ref kx_likes, .ref kx_now_cables, .int v2, .null, .null, .null, .null] [] (I, L, ab_RR, n, nc, ns) res := by
  refine ab_iload_n (i := 2) d_Likes_countNets_2 rfl rfl ?_
  refine ab_bipush (v := 10) d_Likes_countNets_3 rfl ?_
  refine ab_icmp_ge (tgt := 28) d_Likes_countNets_5 (by decide) (fun c1 => ?_) (fun c1 => ?_)
  · have h := h.1 c1
    refine ab_aload_n (i := 0) d_Likes_countNets_28 rfl rfl ?_
    obtain ⟨L3, hC, h⟩ := h
    refine ab_callV (me2 := mt_Likes_clearMatrix) (b := kx_likes) (as := []) (st := []) (rv := none) (M2 := (I, L3, ab_RR, n, nc, ns)) d_Likes_countNets_29 ce_Likes_clearMatrix v_535 v_537 v_5 (by decide) rfl (Nat.le_of_ble_eq_true rfl) hC (Nat.le_refl _) (Nat.le_refl _) hc hs (fun j h9 => by cases h9) (fun _ _ => rfl) ?_
    show ab_E w (d + 1) mt_Likes_countNets 32 [.ref kx_likes, .ref kx_now_cables, .int v2, .null, .null, .null, .null] [] (I, L3, ab_RR, n, nc, ns) res
    refine ab_lconst (v := 1) d_Likes_countNets_32 rfl ?_
    refine ab_lstore_n (i := 2) d_Likes_countNets_33 rfl (by decide) (Or.inr rfl) ?_
    refine ab_iconst (v := 0) d_Likes_countNets_34 rfl ?_
    refine ab_istore (i := 4) d_Likes_countNets_35 (by decide) (Or.inr rfl) ?_
    exact h
  · have h := h.2 c1
    refine ab_aload_n (i := 0) d_Likes_countNets_8 rfl rfl ?_
    refine ab_getR (ci := 3) (k := 0) (j := kx_likes_before) d_Likes_countNets_9 v_407 rfl (by decide) (by decide) rfl r_kx_likes_0 ?_
    refine ab_iload_n (i := 2) d_Likes_countNets_12 rfl rfl ?_
    refine ab_iload_n (i := 2) d_Likes_countNets_13 rfl rfl ?_
    have g4 := h.1; have h := h.2
    refine ab_iast d_Likes_countNets_14 rfl rfl g4 ?_
    refine ab_aload_n (i := 0) d_Likes_countNets_15 rfl rfl ?_
    refine ab_getR (ci := 3) (k := 1) (j := kx_likes_behind) d_Likes_countNets_16 v_408 rfl (by decide) (by decide) rfl r_kx_likes_1 ?_
    refine ab_iload_n (i := 2) d_Likes_countNets_19 rfl rfl ?_
    refine ab_iload_n (i := 2) d_Likes_countNets_20 rfl rfl ?_
    refine ab_iast d_Likes_countNets_21 rfl rfl g4 ?_
    refine ab_iinc (i := 2) (v := (v2 + 1)) d_Likes_countNets_22 rfl rfl (by decide) (Or.inr rfl) ?_
    refine ab_goto (tgt := 2) d_Likes_countNets_25 (by decide) ?_
    exact h
theorem r_Likes_countNets_37 {w : ab_Wd} {d n nc ns : Nat} {I : Nat → Nat → Int32} {L : Nat → Nat → Int64} {res : ab_Re} (hT : w.1.stackTraces = false) (v2 : Int64) (v4 : Int32) (hc : nc ≤ res.2.2.2.2.2.1) (hs : ns ≤ res.2.2.2.2.2.2)
    (h : (((I kx_now_cables 1) ≤ v4 → (res = (.inl (some (.long v2)), (I, L, ab_RR, n, nc, ns)))) ∧ (¬ (I kx_now_cables 1) ≤ v4 → ((vp_in v4 24) ∧ (((((I kx_now_cables 2) >>> ((I kx_now_cables_order v4.toNatClampNeg) &&& 31)) &&& 1) = 1 → ((vp_in (I kx_now_cables_order v4.toNatClampNeg) 24) ∧ ∃ (I7 : Nat → Nat → Int32) (L8 : Nat → Nat → Int64), ab_C w d mt_Likes_enter [.ref kx_likes, .int (I kx_now_cables_first (I kx_now_cables_order v4.toNatClampNeg).toNatClampNeg), .int (I kx_now_cables_second (I kx_now_cables_order v4.toNatClampNeg).toNatClampNeg)] (I, L, ab_RR, n, nc, ns) (.inl none, (I7, L8, ab_RR, n, nc, ns)) ∧ ((¬ (v4 + 1) = (I7 kx_now_cables 1) → ((vp_in (v4 + 1) 24) ∧ (vp_in (I7 kx_now_cables_order (v4 + 1).toNatClampNeg) 24) ∧ (((I7 kx_now_cables_price (I7 kx_now_cables_order (v4 + 1).toNatClampNeg).toNatClampNeg) = (I7 kx_now_cables_price (I kx_now_cables_order v4.toNatClampNeg).toNatClampNeg) → (ab_E w (d + 1) mt_Likes_countNets 37 [.ref kx_likes, .ref kx_now_cables, .long v2, .null, .int (v4 + 1), .null, .null] [] (I7, L8, ab_RR, n, nc, ns) res)) ∧ (¬ (I7 kx_now_cables_price (I7 kx_now_cables_order (v4 + 1).toNatClampNeg).toNatClampNeg) = (I7 kx_now_cables_price (I kx_now_cables_order v4.toNatClampNeg).toNatClampNeg) → (∃ (r13 : Int64) (I14 : Nat → Nat → Int32) (L15 : Nat → Nat → Int64), ab_C w d mt_Likes_choices [.ref kx_likes] (I7, L8, ab_RR, n, nc, ns) (.inl (some (.long r13)), (I14, L15, ab_RR, n, nc, ns)) ∧ ∃ (I17 : Nat → Nat → Int32) (L18 : Nat → Nat → Int64), ab_C w d mt_Likes_passPrice [.ref kx_likes] (I14, L15, ab_RR, n, nc, ns) (.inl none, (I17, L18, ab_RR, n, nc, ns)) ∧ ab_E w (d + 1) mt_Likes_countNets 37 [.ref kx_likes, .ref kx_now_cables, .long (v2 * r13), .null, .int (v4 + 1), .null, .null] [] (I17, L18, ab_RR, n, nc, ns) res))))) ∧ ((v4 + 1) = (I7 kx_now_cables 1) → (∃ (r19 : Int64) (I20 : Nat → Nat → Int32) (L21 : Nat → Nat → Int64), ab_C w d mt_Likes_choices [.ref kx_likes] (I7, L8, ab_RR, n, nc, ns) (.inl (some (.long r19)), (I20, L21, ab_RR, n, nc, ns)) ∧ ∃ (I23 : Nat → Nat → Int32) (L24 : Nat → Nat → Int64), ab_C w d mt_Likes_passPrice [.ref kx_likes] (I20, L21, ab_RR, n, nc, ns) (.inl none, (I23, L24, ab_RR, n, nc, ns)) ∧ ab_E w (d + 1) mt_Likes_countNets 37 [.ref kx_likes, .ref kx_now_cables, .long (v2 * r19), .null, .int (v4 + 1), .null, .null] [] (I23, L24, ab_RR, n, nc, ns) res))))) ∧ (¬ (((I kx_now_cables 2) >>> ((I kx_now_cables_order v4.toNatClampNeg) &&& 31)) &&& 1) = 1 → ((¬ (v4 + 1) = (I kx_now_cables 1) → ((vp_in (v4 + 1) 24) ∧ (vp_in (I kx_now_cables_order (v4 + 1).toNatClampNeg) 24) ∧ (vp_in (I kx_now_cables_order v4.toNatClampNeg) 24) ∧ (((I kx_now_cables_price (I kx_now_cables_order (v4 + 1).toNatClampNeg).toNatClampNeg) = (I kx_now_cables_price (I kx_now_cables_order v4.toNatClampNeg).toNatClampNeg) → (ab_E w (d + 1) mt_Likes_countNets 37 [.ref kx_likes, .ref kx_now_cables, .long v2, .null, .int (v4 + 1), .null, .null] [] (I, L, ab_RR, n, nc, ns) res)) ∧ (¬ (I kx_now_cables_price (I kx_now_cables_order (v4 + 1).toNatClampNeg).toNatClampNeg) = (I kx_now_cables_price (I kx_now_cables_order v4.toNatClampNeg).toNatClampNeg) → (∃ (r30 : Int64) (I31 : Nat → Nat → Int32) (L32 : Nat → Nat → Int64), ab_C w d mt_Likes_choices [.ref kx_likes] (I, L, ab_RR, n, nc, ns) (.inl (some (.long r30)), (I31, L32, ab_RR, n, nc, ns)) ∧ ∃ (I34 : Nat → Nat → Int32) (L35 : Nat → Nat → Int64), ab_C w d mt_Likes_passPrice [.ref kx_likes] (I31, L32, ab_RR, n, nc, ns) (.inl none, (I34, L35, ab_RR, n, nc, ns)) ∧ ab_E w (d + 1) mt_Likes_countNets 37 [.ref kx_likes, .ref kx_now_cables, .long (v2 * r30), .null, .int (v4 + 1), .null, .null] [] (I34, L35, ab_RR, n, nc, ns) res))))) ∧ ((v4 + 1) = (I kx_now_cables 1) → (∃ (r36 : Int64) (I37 : Nat → Nat → Int32) (L38 : Nat → Nat → Int64), ab_C w d mt_Likes_choices [.ref kx_likes] (I, L, ab_RR, n, nc, ns) (.inl (some (.long r36)), (I37, L38, ab_RR, n, nc, ns)) ∧ ∃ (I40 : Nat → Nat → Int32) (L41 : Nat → Nat → Int64), ab_C w d mt_Likes_passPrice [.ref kx_likes] (I37, L38, ab_RR, n, nc, ns) (.inl none, (I40, L41, ab_RR, n, nc, ns)) ∧ ab_E w (d + 1) mt_Likes_countNets 37 [.ref kx_likes, .ref kx_now_cables, .long (v2 * r36), .null, .int (v4 + 1), .null, .null] [] (I40, L41, ab_RR, n, nc, ns) res))))))))) : ab_E w (d + 1) mt_Likes_countNets 37 [.ref kx_likes, .ref kx_now_cables, .long v2, .null, .int v4, .null, .null] [] (I, L, ab_RR, n, nc, ns) res := by
  refine ab_iload (i := 4) d_Likes_countNets_37 rfl ?_
  refine ab_aload_n (i := 1) d_Likes_countNets_39 rfl rfl ?_
  refine ab_getI (ci := 1) (k := 1) d_Likes_countNets_40 v_194 rfl (by decide) (by decide) rfl ?_
  refine ab_icmp_ge (tgt := 146) d_Likes_countNets_43 (by decide) (fun c1 => ?_) (fun c1 => ?_)
  · have h := h.1 c1
    refine ab_lload_n (i := 2) d_Likes_countNets_146 rfl rfl ?_
    exact ab_lret d_Likes_countNets_147 rfl h
  · have h := h.2 c1
    refine ab_aload_n (i := 1) d_Likes_countNets_46 rfl rfl ?_
    refine ab_getR (ci := 1) (k := 7) (j := kx_now_cables_order) d_Likes_countNets_47 v_230 rfl (by decide) (by decide) rfl r_kx_now_cables_7 ?_
    refine ab_iload (i := 4) d_Likes_countNets_50 rfl ?_
    have g2 := h.1; have h := h.2
    refine ab_iald d_Likes_countNets_52 rfl rfl g2 ?_
    refine ab_istore (i := 5) d_Likes_countNets_53 (by decide) (Or.inr rfl) ?_
    refine ab_aload_n (i := 1) d_Likes_countNets_55 rfl rfl ?_
    refine ab_iload (i := 5) d_Likes_countNets_56 rfl ?_
    by_cases c4 : (((I kx_now_cables 2) >>> ((I kx_now_cables_order v4.toNatClampNeg) &&& 31)) &&& 1) = 1
    · have h := h.1 c4
      refine ab_callV (me2 := mt_Cables_isSound) (b := kx_now_cables) (as := [.int (I kx_now_cables_order v4.toNatClampNeg)]) (st := []) (rv := (some (.int 1))) (M2 := (I, L, ab_RR, n, nc, ns)) d_Likes_countNets_58 ce_Cables_isSound v_539 v_540 v_541 (by decide) rfl (Nat.le_of_ble_eq_true rfl) (cx_Cables_isSound_0_1 (I kx_now_cables_order v4.toNatClampNeg) hT c4) (Nat.le_refl _) (Nat.le_refl _) hc hs (fun j h9 => by cases h9) (fun _ _ => rfl) ?_
      show ab_E w (d + 1) mt_Likes_countNets 61 [.ref kx_likes, .ref kx_now_cables, .long v2, .null, .int v4, .int (I kx_now_cables_order v4.toNatClampNeg), .null] [.int 1] (I, L, ab_RR, n, nc, ns) res
      refine ab_if_eq (tgt := 82) d_Likes_countNets_61 (by decide) (fun c9 => absurd c9 (show ¬ (1 : Int32) = 0 from by decide)) (fun _ => ?_)
      refine ab_aload_n (i := 0) d_Likes_countNets_64 rfl rfl ?_
      refine ab_aload_n (i := 1) d_Likes_countNets_65 rfl rfl ?_
      refine ab_getR (ci := 1) (k := 3) (j := kx_now_cables_first) d_Likes_countNets_66 v_206 rfl (by decide) (by decide) rfl r_kx_now_cables_3 ?_
      refine ab_iload (i := 5) d_Likes_countNets_69 rfl ?_
      have g5 := h.1; have h := h.2
      refine ab_iald d_Likes_countNets_71 rfl rfl g5 ?_
      refine ab_aload_n (i := 1) d_Likes_countNets_72 rfl rfl ?_
      refine ab_getR (ci := 1) (k := 4) (j := kx_now_cables_second) d_Likes_countNets_73 v_213 rfl (by decide) (by decide) rfl r_kx_now_cables_4 ?_
      refine ab_iload (i := 5) d_Likes_countNets_76 rfl ?_
      refine ab_iald d_Likes_countNets_78 rfl rfl g5 ?_
      obtain ⟨I7, L8, hC, h⟩ := h
      refine ab_callV (me2 := mt_Likes_enter) (b := kx_likes) (as := [.int (I kx_now_cables_first (I kx_now_cables_order v4.toNatClampNeg).toNatClampNeg), .int (I kx_now_cables_second (I kx_now_cables_order v4.toNatClampNeg).toNatClampNeg)]) (st := []) (rv := none) (M2 := (I7, L8, ab_RR, n, nc, ns)) d_Likes_countNets_79 ce_Likes_enter v_543 v_545 v_6 (by decide) rfl (Nat.le_of_ble_eq_true rfl) hC (Nat.le_refl _) (Nat.le_refl _) hc hs (fun j h9 => by cases h9) (fun _ _ => rfl) ?_
      show ab_E w (d + 1) mt_Likes_countNets 82 [.ref kx_likes, .ref kx_now_cables, .long v2, .null, .int v4, .int (I kx_now_cables_order v4.toNatClampNeg), .null] [] (I7, L8, ab_RR, n, nc, ns) res
      refine ab_iload (i := 4) d_Likes_countNets_82 rfl ?_
      refine ab_iconst (v := 1) d_Likes_countNets_84 rfl ?_
      refine ab_iadd d_Likes_countNets_85 ?_
      refine ab_aload_n (i := 1) d_Likes_countNets_86 rfl rfl ?_
      refine ab_getI (ci := 1) (k := 1) d_Likes_countNets_87 v_194 rfl (by decide) (by decide) rfl ?_
      refine ab_icmp_ne (tgt := 97) d_Likes_countNets_90 (by decide) (fun c9 => ?_) (fun c9 => ?_)
      · have h := h.1 c9
        refine ab_iconst (v := 0) d_Likes_countNets_97 rfl ?_
        refine ab_istore (i := 6) d_Likes_countNets_98 (by decide) (Or.inr rfl) ?_
        refine ab_iload (i := 6) d_Likes_countNets_100 rfl ?_
        refine ab_if_ne (tgt := 129) d_Likes_countNets_102 (by decide) (fun c9 => absurd (show (0 : Int32) = 0 from by decide) c9) (fun _ => ?_)
        refine ab_aload_n (i := 1) d_Likes_countNets_105 rfl rfl ?_
        refine ab_getR (ci := 1) (k := 5) (j := kx_now_cables_price) d_Likes_countNets_106 v_220 rfl (by decide) (by decide) rfl r_kx_now_cables_5 ?_
        refine ab_aload_n (i := 1) d_Likes_countNets_109 rfl rfl ?_
        refine ab_getR (ci := 1) (k := 7) (j := kx_now_cables_order) d_Likes_countNets_110 v_230 rfl (by decide) (by decide) rfl r_kx_now_cables_7 ?_
        refine ab_iload (i := 4) d_Likes_countNets_113 rfl ?_
        refine ab_iconst (v := 1) d_Likes_countNets_115 rfl ?_
        refine ab_iadd d_Likes_countNets_116 ?_
        have g10 := h.1; have h := h.2
        refine ab_iald d_Likes_countNets_117 rfl rfl g10 ?_
        have g11 := h.1; have h := h.2
        refine ab_iald d_Likes_countNets_118 rfl rfl g11 ?_
        refine ab_aload_n (i := 1) d_Likes_countNets_119 rfl rfl ?_
        refine ab_getR (ci := 1) (k := 5) (j := kx_now_cables_price) d_Likes_countNets_120 v_220 rfl (by decide) (by decide) rfl r_kx_now_cables_5 ?_
        refine ab_iload (i := 5) d_Likes_countNets_123 rfl ?_
        refine ab_iald d_Likes_countNets_125 rfl rfl g5 ?_
        refine ab_icmp_eq (tgt := 140) d_Likes_countNets_126 (by decide) (fun c12 => ?_) (fun c12 => ?_)
        · have h := h.1 c12
          refine ab_iinc (i := 4) (v := (v4 + 1)) d_Likes_countNets_140 rfl rfl (by decide) (Or.inr rfl) ?_
          refine ab_goto (tgt := 37) d_Likes_countNets_143 (by decide) ?_
          refine ab_drop 5 ?_
          refine ab_drop 6 ?_
          exact h
        · have h := h.2 c12
          refine ab_lload_n (i := 2) d_Likes_countNets_129 rfl rfl ?_
          refine ab_aload_n (i := 0) d_Likes_countNets_130 rfl rfl ?_
          obtain ⟨r13, I14, L15, hC, h⟩ := h
          refine ab_callV (me2 := mt_Likes_choices) (b := kx_likes) (as := []) (st := [.long v2]) (rv := (some (.long r13))) (M2 := (I14, L15, ab_RR, n, nc, ns)) d_Likes_countNets_131 ce_Likes_choices v_548 v_550 v_7 (by decide) rfl (Nat.le_of_ble_eq_true rfl) hC (Nat.le_refl _) (Nat.le_refl _) hc hs (fun j h9 => by cases h9) (fun _ _ => rfl) ?_
          show ab_E w (d + 1) mt_Likes_countNets 134 [.ref kx_likes, .ref kx_now_cables, .long v2, .null, .int v4, .int (I kx_now_cables_order v4.toNatClampNeg), .int 0] [.long r13, .long v2] (I14, L15, ab_RR, n, nc, ns) res
          refine ab_lmul d_Likes_countNets_134 ?_
          refine ab_lstore_n (i := 2) d_Likes_countNets_135 rfl (by decide) (Or.inr rfl) ?_
          refine ab_aload_n (i := 0) d_Likes_countNets_136 rfl rfl ?_
          obtain ⟨I17, L18, hC, h⟩ := h
          refine ab_callV (me2 := mt_Likes_passPrice) (b := kx_likes) (as := []) (st := []) (rv := none) (M2 := (I17, L18, ab_RR, n, nc, ns)) d_Likes_countNets_137 ce_Likes_passPrice v_556 v_558 v_9 (by decide) rfl (Nat.le_of_ble_eq_true rfl) hC (Nat.le_refl _) (Nat.le_refl _) hc hs (fun j h9 => by cases h9) (fun _ _ => rfl) ?_
          show ab_E w (d + 1) mt_Likes_countNets 140 [.ref kx_likes, .ref kx_now_cables, .long (v2 * r13), .null, .int v4, .int (I kx_now_cables_order v4.toNatClampNeg), .int 0] [] (I17, L18, ab_RR, n, nc, ns) res
          refine ab_iinc (i := 4) (v := (v4 + 1)) d_Likes_countNets_140 rfl rfl (by decide) (Or.inr rfl) ?_
          refine ab_goto (tgt := 37) d_Likes_countNets_143 (by decide) ?_
          refine ab_drop 5 ?_
          refine ab_drop 6 ?_
          exact h
      · have h := h.2 c9
        refine ab_iconst (v := 1) d_Likes_countNets_93 rfl ?_
        refine ab_goto (tgt := 98) d_Likes_countNets_94 (by decide) ?_
        refine ab_istore (i := 6) d_Likes_countNets_98 (by decide) (Or.inr rfl) ?_
        refine ab_iload (i := 6) d_Likes_countNets_100 rfl ?_
        refine ab_if_ne (tgt := 129) d_Likes_countNets_102 (by decide) (fun _ => ?_) (fun c9 => absurd c9 (show ¬ (1 : Int32) = 0 from by decide))
        refine ab_lload_n (i := 2) d_Likes_countNets_129 rfl rfl ?_
        refine ab_aload_n (i := 0) d_Likes_countNets_130 rfl rfl ?_
        obtain ⟨r19, I20, L21, hC, h⟩ := h
        refine ab_callV (me2 := mt_Likes_choices) (b := kx_likes) (as := []) (st := [.long v2]) (rv := (some (.long r19))) (M2 := (I20, L21, ab_RR, n, nc, ns)) d_Likes_countNets_131 ce_Likes_choices v_548 v_550 v_7 (by decide) rfl (Nat.le_of_ble_eq_true rfl) hC (Nat.le_refl _) (Nat.le_refl _) hc hs (fun j h9 => by cases h9) (fun _ _ => rfl) ?_
        show ab_E w (d + 1) mt_Likes_countNets 134 [.ref kx_likes, .ref kx_now_cables, .long v2, .null, .int v4, .int (I kx_now_cables_order v4.toNatClampNeg), .int 1] [.long r19, .long v2] (I20, L21, ab_RR, n, nc, ns) res
        refine ab_lmul d_Likes_countNets_134 ?_
        refine ab_lstore_n (i := 2) d_Likes_countNets_135 rfl (by decide) (Or.inr rfl) ?_
        refine ab_aload_n (i := 0) d_Likes_countNets_136 rfl rfl ?_
        obtain ⟨I23, L24, hC, h⟩ := h
        refine ab_callV (me2 := mt_Likes_passPrice) (b := kx_likes) (as := []) (st := []) (rv := none) (M2 := (I23, L24, ab_RR, n, nc, ns)) d_Likes_countNets_137 ce_Likes_passPrice v_556 v_558 v_9 (by decide) rfl (Nat.le_of_ble_eq_true rfl) hC (Nat.le_refl _) (Nat.le_refl _) hc hs (fun j h9 => by cases h9) (fun _ _ => rfl) ?_
        show ab_E w (d + 1) mt_Likes_countNets 140 [.ref kx_likes, .ref kx_now_cables, .long (v2 * r19), .null, .int v4, .int (I kx_now_cables_order v4.toNatClampNeg), .int 1] [] (I23, L24, ab_RR, n, nc, ns) res
        refine ab_iinc (i := 4) (v := (v4 + 1)) d_Likes_countNets_140 rfl rfl (by decide) (Or.inr rfl) ?_
        refine ab_goto (tgt := 37) d_Likes_countNets_143 (by decide) ?_
        refine ab_drop 5 ?_
        refine ab_drop 6 ?_
        exact h
    · have h := h.2 c4
      refine ab_callV (me2 := mt_Cables_isSound) (b := kx_now_cables) (as := [.int (I kx_now_cables_order v4.toNatClampNeg)]) (st := []) (rv := (some (.int 0))) (M2 := (I, L, ab_RR, n, nc, ns)) d_Likes_countNets_58 ce_Cables_isSound v_539 v_540 v_541 (by decide) rfl (Nat.le_of_ble_eq_true rfl) (cx_Cables_isSound_0_0 (I kx_now_cables_order v4.toNatClampNeg) hT c4) (Nat.le_refl _) (Nat.le_refl _) hc hs (fun j h9 => by cases h9) (fun _ _ => rfl) ?_
      show ab_E w (d + 1) mt_Likes_countNets 61 [.ref kx_likes, .ref kx_now_cables, .long v2, .null, .int v4, .int (I kx_now_cables_order v4.toNatClampNeg), .null] [.int 0] (I, L, ab_RR, n, nc, ns) res
      refine ab_if_eq (tgt := 82) d_Likes_countNets_61 (by decide) (fun _ => ?_) (fun c9 => absurd (show (0 : Int32) = 0 from by decide) c9)
      refine ab_iload (i := 4) d_Likes_countNets_82 rfl ?_
      refine ab_iconst (v := 1) d_Likes_countNets_84 rfl ?_
      refine ab_iadd d_Likes_countNets_85 ?_
      refine ab_aload_n (i := 1) d_Likes_countNets_86 rfl rfl ?_
      refine ab_getI (ci := 1) (k := 1) d_Likes_countNets_87 v_194 rfl (by decide) (by decide) rfl ?_
      refine ab_icmp_ne (tgt := 97) d_Likes_countNets_90 (by decide) (fun c25 => ?_) (fun c25 => ?_)
      · have h := h.1 c25
        refine ab_iconst (v := 0) d_Likes_countNets_97 rfl ?_
        refine ab_istore (i := 6) d_Likes_countNets_98 (by decide) (Or.inr rfl) ?_
        refine ab_iload (i := 6) d_Likes_countNets_100 rfl ?_
        refine ab_if_ne (tgt := 129) d_Likes_countNets_102 (by decide) (fun c9 => absurd (show (0 : Int32) = 0 from by decide) c9) (fun _ => ?_)
        refine ab_aload_n (i := 1) d_Likes_countNets_105 rfl rfl ?_
        refine ab_getR (ci := 1) (k := 5) (j := kx_now_cables_price) d_Likes_countNets_106 v_220 rfl (by decide) (by decide) rfl r_kx_now_cables_5 ?_
        refine ab_aload_n (i := 1) d_Likes_countNets_109 rfl rfl ?_
        refine ab_getR (ci := 1) (k := 7) (j := kx_now_cables_order) d_Likes_countNets_110 v_230 rfl (by decide) (by decide) rfl r_kx_now_cables_7 ?_
        refine ab_iload (i := 4) d_Likes_countNets_113 rfl ?_
        refine ab_iconst (v := 1) d_Likes_countNets_115 rfl ?_
        refine ab_iadd d_Likes_countNets_116 ?_
        have g26 := h.1; have h := h.2
        refine ab_iald d_Likes_countNets_117 rfl rfl g26 ?_
        have g27 := h.1; have h := h.2
        refine ab_iald d_Likes_countNets_118 rfl rfl g27 ?_
        refine ab_aload_n (i := 1) d_Likes_countNets_119 rfl rfl ?_
        refine ab_getR (ci := 1) (k := 5) (j := kx_now_cables_price) d_Likes_countNets_120 v_220 rfl (by decide) (by decide) rfl r_kx_now_cables_5 ?_
        refine ab_iload (i := 5) d_Likes_countNets_123 rfl ?_
        have g28 := h.1; have h := h.2
        refine ab_iald d_Likes_countNets_125 rfl rfl g28 ?_
        refine ab_icmp_eq (tgt := 140) d_Likes_countNets_126 (by decide) (fun c29 => ?_) (fun c29 => ?_)
        · have h := h.1 c29
          refine ab_iinc (i := 4) (v := (v4 + 1)) d_Likes_countNets_140 rfl rfl (by decide) (Or.inr rfl) ?_
          refine ab_goto (tgt := 37) d_Likes_countNets_143 (by decide) ?_
          refine ab_drop 5 ?_
          refine ab_drop 6 ?_
          exact h
        · have h := h.2 c29
          refine ab_lload_n (i := 2) d_Likes_countNets_129 rfl rfl ?_
          refine ab_aload_n (i := 0) d_Likes_countNets_130 rfl rfl ?_
          obtain ⟨r30, I31, L32, hC, h⟩ := h
          refine ab_callV (me2 := mt_Likes_choices) (b := kx_likes) (as := []) (st := [.long v2]) (rv := (some (.long r30))) (M2 := (I31, L32, ab_RR, n, nc, ns)) d_Likes_countNets_131 ce_Likes_choices v_548 v_550 v_7 (by decide) rfl (Nat.le_of_ble_eq_true rfl) hC (Nat.le_refl _) (Nat.le_refl _) hc hs (fun j h9 => by cases h9) (fun _ _ => rfl) ?_
          show ab_E w (d + 1) mt_Likes_countNets 134 [.ref kx_likes, .ref kx_now_cables, .long v2, .null, .int v4, .int (I kx_now_cables_order v4.toNatClampNeg), .int 0] [.long r30, .long v2] (I31, L32, ab_RR, n, nc, ns) res
          refine ab_lmul d_Likes_countNets_134 ?_
          refine ab_lstore_n (i := 2) d_Likes_countNets_135 rfl (by decide) (Or.inr rfl) ?_
          refine ab_aload_n (i := 0) d_Likes_countNets_136 rfl rfl ?_
          obtain ⟨I34, L35, hC, h⟩ := h
          refine ab_callV (me2 := mt_Likes_passPrice) (b := kx_likes) (as := []) (st := []) (rv := none) (M2 := (I34, L35, ab_RR, n, nc, ns)) d_Likes_countNets_137 ce_Likes_passPrice v_556 v_558 v_9 (by decide) rfl (Nat.le_of_ble_eq_true rfl) hC (Nat.le_refl _) (Nat.le_refl _) hc hs (fun j h9 => by cases h9) (fun _ _ => rfl) ?_
          show ab_E w (d + 1) mt_Likes_countNets 140 [.ref kx_likes, .ref kx_now_cables, .long (v2 * r30), .null, .int v4, .int (I kx_now_cables_order v4.toNatClampNeg), .int 0] [] (I34, L35, ab_RR, n, nc, ns) res
          refine ab_iinc (i := 4) (v := (v4 + 1)) d_Likes_countNets_140 rfl rfl (by decide) (Or.inr rfl) ?_
          refine ab_goto (tgt := 37) d_Likes_countNets_143 (by decide) ?_
          refine ab_drop 5 ?_
          refine ab_drop 6 ?_
          exact h
      · have h := h.2 c25
        refine ab_iconst (v := 1) d_Likes_countNets_93 rfl ?_
        refine ab_goto (tgt := 98) d_Likes_countNets_94 (by decide) ?_
        refine ab_istore (i := 6) d_Likes_countNets_98 (by decide) (Or.inr rfl) ?_
        refine ab_iload (i := 6) d_Likes_countNets_100 rfl ?_
        refine ab_if_ne (tgt := 129) d_Likes_countNets_102 (by decide) (fun _ => ?_) (fun c9 => absurd c9 (show ¬ (1 : Int32) = 0 from by decide))
        refine ab_lload_n (i := 2) d_Likes_countNets_129 rfl rfl ?_
        refine ab_aload_n (i := 0) d_Likes_countNets_130 rfl rfl ?_
        obtain ⟨r36, I37, L38, hC, h⟩ := h
        refine ab_callV (me2 := mt_Likes_choices) (b := kx_likes) (as := []) (st := [.long v2]) (rv := (some (.long r36))) (M2 := (I37, L38, ab_RR, n, nc, ns)) d_Likes_countNets_131 ce_Likes_choices v_548 v_550 v_7 (by decide) rfl (Nat.le_of_ble_eq_true rfl) hC (Nat.le_refl _) (Nat.le_refl _) hc hs (fun j h9 => by cases h9) (fun _ _ => rfl) ?_
        show ab_E w (d + 1) mt_Likes_countNets 134 [.ref kx_likes, .ref kx_now_cables, .long v2, .null, .int v4, .int (I kx_now_cables_order v4.toNatClampNeg), .int 1] [.long r36, .long v2] (I37, L38, ab_RR, n, nc, ns) res
        refine ab_lmul d_Likes_countNets_134 ?_
        refine ab_lstore_n (i := 2) d_Likes_countNets_135 rfl (by decide) (Or.inr rfl) ?_
        refine ab_aload_n (i := 0) d_Likes_countNets_136 rfl rfl ?_
        obtain ⟨I40, L41, hC, h⟩ := h
        refine ab_callV (me2 := mt_Likes_passPrice) (b := kx_likes) (as := []) (st := []) (rv := none) (M2 := (I40, L41, ab_RR, n, nc, ns)) d_Likes_countNets_137 ce_Likes_passPrice v_556 v_558 v_9 (by decide) rfl (Nat.le_of_ble_eq_true rfl) hC (Nat.le_refl _) (Nat.le_refl _) hc hs (fun j h9 => by cases h9) (fun _ _ => rfl) ?_
        show ab_E w (d + 1) mt_Likes_countNets 140 [.ref kx_likes, .ref kx_now_cables, .long (v2 * r36), .null, .int v4, .int (I kx_now_cables_order v4.toNatClampNeg), .int 1] [] (I40, L41, ab_RR, n, nc, ns) res
        refine ab_iinc (i := 4) (v := (v4 + 1)) d_Likes_countNets_140 rfl rfl (by decide) (Or.inr rfl) ?_
        refine ab_goto (tgt := 37) d_Likes_countNets_143 (by decide) ?_
        refine ab_drop 5 ?_
        refine ab_drop 6 ?_
        exact h
theorem r_Teller_tell_0 {w : ab_Wd} {d n nc ns : Nat} {I : Nat → Nat → Int32} {L : Nat → Nat → Int64} {res : ab_Re} (hT : w.1.stackTraces = false)  (hc : nc ≤ res.2.2.2.2.2.1) (hs : ns ≤ res.2.2.2.2.2.2)
    (h : ∃ (I2 : Nat → Nat → Int32), ab_C w d mt_Teller_put_S [.ref kx_teller, .ref 224] ((ab_up I kx_teller 1 0), L, ab_RR, n, nc, ns) (.inl none, (I2, L, ab_RR, n, nc, ns)) ∧ ∃ (I4 : Nat → Nat → Int32), ab_C w d mt_Teller_put_I [.ref kx_teller, .int (I2 kx_now_cables 0)] (I2, L, ab_RR, n, nc, ns) (.inl none, (I4, L, ab_RR, n, nc, ns)) ∧ ∃ (I6 : Nat → Nat → Int32), ab_C w d mt_Teller_put_S [.ref kx_teller, .ref 416] (I4, L, ab_RR, n, nc, ns) (.inl none, (I6, L, ab_RR, n, nc, ns)) ∧ ab_E w (d + 1) mt_Teller_tell 27 [.ref kx_teller, .ref kx_now_cables, .int 0] [] (I6, L, ab_RR, n, nc, ns) res) : ab_E w (d + 1) mt_Teller_tell 0 [.ref kx_teller, .ref kx_now_cables, .null] [] (I, L, ab_RR, n, nc, ns) res := by
  refine ab_aload_n (i := 0) d_Teller_tell_0 rfl rfl ?_
  refine ab_iconst (v := 0) d_Teller_tell_1 rfl ?_
  refine ab_putI (ci := 8) (k := 1) d_Teller_tell_2 v_429 rfl (by decide) (by decide) rfl (Or.inl rfl) rfl rfl ?_
  refine ab_aload_n (i := 0) d_Teller_tell_5 rfl rfl ?_
  refine ab_ldcS (j := 3) (tx := "sites ") d_Teller_tell_6 (by decide) (by decide +kernel) ?_
  obtain ⟨I2, hC, h⟩ := h
  refine ab_callV (me2 := mt_Teller_put_S) (b := kx_teller) (as := [.ref 224]) (st := []) (rv := none) (M2 := (I2, L, ab_RR, n, nc, ns)) d_Teller_tell_8 ce_Teller_put_S v_1224 v_1226 v_56 (by decide) rfl (Nat.le_of_ble_eq_true rfl) hC (Nat.le_refl _) (Nat.le_refl _) hc hs (fun j h9 => by cases h9) (fun _ _ => rfl) ?_
  show ab_E w (d + 1) mt_Teller_tell 11 [.ref kx_teller, .ref kx_now_cables, .null] [] (I2, L, ab_RR, n, nc, ns) res
  refine ab_aload_n (i := 0) d_Teller_tell_11 rfl rfl ?_
  refine ab_aload_n (i := 1) d_Teller_tell_12 rfl rfl ?_
  refine ab_getI (ci := 1) (k := 0) d_Teller_tell_13 v_186 rfl (by decide) (by decide) rfl ?_
  obtain ⟨I4, hC, h⟩ := h
  refine ab_callV (me2 := mt_Teller_put_I) (b := kx_teller) (as := [.int (I2 kx_now_cables 0)]) (st := []) (rv := none) (M2 := (I4, L, ab_RR, n, nc, ns)) d_Teller_tell_16 ce_Teller_put_I v_1234 v_1236 v_58 (by decide) rfl (Nat.le_of_ble_eq_true rfl) hC (Nat.le_refl _) (Nat.le_refl _) hc hs (fun j h9 => by cases h9) (fun _ _ => rfl) ?_
  show ab_E w (d + 1) mt_Teller_tell 19 [.ref kx_teller, .ref kx_now_cables, .null] [] (I4, L, ab_RR, n, nc, ns) res
  refine ab_aload_n (i := 0) d_Teller_tell_19 rfl rfl ?_
  refine ab_ldcS (j := 6) (tx := ";") d_Teller_tell_20 (by decide) (by decide +kernel) ?_
  obtain ⟨I6, hC, h⟩ := h
  refine ab_callV (me2 := mt_Teller_put_S) (b := kx_teller) (as := [.ref 416]) (st := []) (rv := none) (M2 := (I6, L, ab_RR, n, nc, ns)) d_Teller_tell_22 ce_Teller_put_S v_1224 v_1226 v_56 (by decide) rfl (Nat.le_of_ble_eq_true rfl) hC (Nat.le_refl _) (Nat.le_refl _) hc hs (fun j h9 => by cases h9) (fun _ _ => rfl) ?_
  show ab_E w (d + 1) mt_Teller_tell 25 [.ref kx_teller, .ref kx_now_cables, .null] [] (I6, L, ab_RR, n, nc, ns) res
  refine ab_iconst (v := 0) d_Teller_tell_25 rfl ?_
  refine ab_istore_n (i := 2) d_Teller_tell_26 rfl (by decide) (Or.inr rfl) ?_
  exact h
theorem r_Teller_tell_27 {w : ab_Wd} {d n nc ns : Nat} {I : Nat → Nat → Int32} {L : Nat → Nat → Int64} {res : ab_Re} (hT : w.1.stackTraces = false) (v2 : Int32) (hc : nc ≤ res.2.2.2.2.2.1) (hs : ns ≤ res.2.2.2.2.2.2)
    (h : (((I kx_now_cables 1) ≤ v2 → (ab_E w (d + 1) mt_Teller_tell 113 [.ref kx_teller, .ref kx_now_cables, .int 0] [] (I, L, ab_RR, n, nc, ns) res)) ∧ (¬ (I kx_now_cables 1) ≤ v2 → (∃ (I3 : Nat → Nat → Int32), ab_C w d mt_Teller_put_S [.ref kx_teller, .ref 288] (I, L, ab_RR, n, nc, ns) (.inl none, (I3, L, ab_RR, n, nc, ns)) ∧ (vp_in v2 24) ∧ ∃ (I6 : Nat → Nat → Int32), ab_C w d mt_Teller_put_I [.ref kx_teller, .int (I3 kx_now_cables_first v2.toNatClampNeg)] (I3, L, ab_RR, n, nc, ns) (.inl none, (I6, L, ab_RR, n, nc, ns)) ∧ ∃ (I8 : Nat → Nat → Int32), ab_C w d mt_Teller_put_S [.ref kx_teller, .ref 352] (I6, L, ab_RR, n, nc, ns) (.inl none, (I8, L, ab_RR, n, nc, ns)) ∧ ∃ (I10 : Nat → Nat → Int32), ab_C w d mt_Teller_put_I [.ref kx_teller, .int (I8 kx_now_cables_second v2.toNatClampNeg)] (I8, L, ab_RR, n, nc, ns) (.inl none, (I10, L, ab_RR, n, nc, ns)) ∧ ∃ (I12 : Nat → Nat → Int32), ab_C w d mt_Teller_put_S [.ref kx_teller, .ref 352] (I10, L, ab_RR, n, nc, ns) (.inl none, (I12, L, ab_RR, n, nc, ns)) ∧ ∃ (I14 : Nat → Nat → Int32), ab_C w d mt_Teller_put_I [.ref kx_teller, .int (I12 kx_now_cables_price v2.toNatClampNeg)] (I12, L, ab_RR, n, nc, ns) (.inl none, (I14, L, ab_RR, n, nc, ns)) ∧ ∃ (I16 : Nat → Nat → Int32), ab_C w d mt_Teller_put_S [.ref kx_teller, .ref 352] (I14, L, ab_RR, n, nc, ns) (.inl none, (I16, L, ab_RR, n, nc, ns)) ∧ ∃ (I18 : Nat → Nat → Int32), ab_C w d mt_Teller_put_I [.ref kx_teller, .int (I16 kx_now_cables_firm v2.toNatClampNeg)] (I16, L, ab_RR, n, nc, ns) (.inl none, (I18, L, ab_RR, n, nc, ns)) ∧ ∃ (I20 : Nat → Nat → Int32), ab_C w d mt_Teller_put_S [.ref kx_teller, .ref 416] (I18, L, ab_RR, n, nc, ns) (.inl none, (I20, L, ab_RR, n, nc, ns)) ∧ ab_E w (d + 1) mt_Teller_tell 27 [.ref kx_teller, .ref kx_now_cables, .int (v2 + 1)] [] (I20, L, ab_RR, n, nc, ns) res)))) : ab_E w (d + 1) mt_Teller_tell 27 [.ref kx_teller, .ref kx_now_cables, .int v2] [] (I, L, ab_RR, n, nc, ns) res := by
  refine ab_iload_n (i := 2) d_Teller_tell_27 rfl rfl ?_
  refine ab_aload_n (i := 1) d_Teller_tell_28 rfl rfl ?_
  refine ab_getI (ci := 1) (k := 1) d_Teller_tell_29 v_193 rfl (by decide) (by decide) rfl ?_
  refine ab_icmp_ge (tgt := 111) d_Teller_tell_32 (by decide) (fun c1 => ?_) (fun c1 => ?_)
  · have h := h.1 c1
    refine ab_iconst (v := 0) d_Teller_tell_111 rfl ?_
    refine ab_istore_n (i := 2) d_Teller_tell_112 rfl (by decide) (Or.inr rfl) ?_
    exact h
  · have h := h.2 c1
    refine ab_aload_n (i := 0) d_Teller_tell_35 rfl rfl ?_
    refine ab_ldcS (j := 4) (tx := "cable ") d_Teller_tell_36 (by decide) (by decide +kernel) ?_
    obtain ⟨I3, hC, h⟩ := h
    refine ab_callV (me2 := mt_Teller_put_S) (b := kx_teller) (as := [.ref 288]) (st := []) (rv := none) (M2 := (I3, L, ab_RR, n, nc, ns)) d_Teller_tell_38 ce_Teller_put_S v_1224 v_1226 v_56 (by decide) rfl (Nat.le_of_ble_eq_true rfl) hC (Nat.le_refl _) (Nat.le_refl _) hc hs (fun j h9 => by cases h9) (fun _ _ => rfl) ?_
    show ab_E w (d + 1) mt_Teller_tell 41 [.ref kx_teller, .ref kx_now_cables, .int v2] [] (I3, L, ab_RR, n, nc, ns) res
    refine ab_aload_n (i := 0) d_Teller_tell_41 rfl rfl ?_
    refine ab_aload_n (i := 1) d_Teller_tell_42 rfl rfl ?_
    refine ab_getR (ci := 1) (k := 3) (j := kx_now_cables_first) d_Teller_tell_43 v_205 rfl (by decide) (by decide) rfl r_kx_now_cables_3 ?_
    refine ab_iload_n (i := 2) d_Teller_tell_46 rfl rfl ?_
    have g4 := h.1; have h := h.2
    refine ab_iald d_Teller_tell_47 rfl rfl g4 ?_
    obtain ⟨I6, hC, h⟩ := h
    refine ab_callV (me2 := mt_Teller_put_I) (b := kx_teller) (as := [.int (I3 kx_now_cables_first v2.toNatClampNeg)]) (st := []) (rv := none) (M2 := (I6, L, ab_RR, n, nc, ns)) d_Teller_tell_48 ce_Teller_put_I v_1234 v_1236 v_58 (by decide) rfl (Nat.le_of_ble_eq_true rfl) hC (Nat.le_refl _) (Nat.le_refl _) hc hs (fun j h9 => by cases h9) (fun _ _ => rfl) ?_
    show ab_E w (d + 1) mt_Teller_tell 51 [.ref kx_teller, .ref kx_now_cables, .int v2] [] (I6, L, ab_RR, n, nc, ns) res
    refine ab_aload_n (i := 0) d_Teller_tell_51 rfl rfl ?_
    refine ab_ldcS (j := 5) (tx := " ") d_Teller_tell_52 (by decide) (by decide +kernel) ?_
    obtain ⟨I8, hC, h⟩ := h
    refine ab_callV (me2 := mt_Teller_put_S) (b := kx_teller) (as := [.ref 352]) (st := []) (rv := none) (M2 := (I8, L, ab_RR, n, nc, ns)) d_Teller_tell_54 ce_Teller_put_S v_1224 v_1226 v_56 (by decide) rfl (Nat.le_of_ble_eq_true rfl) hC (Nat.le_refl _) (Nat.le_refl _) hc hs (fun j h9 => by cases h9) (fun _ _ => rfl) ?_
    show ab_E w (d + 1) mt_Teller_tell 57 [.ref kx_teller, .ref kx_now_cables, .int v2] [] (I8, L, ab_RR, n, nc, ns) res
    refine ab_aload_n (i := 0) d_Teller_tell_57 rfl rfl ?_
    refine ab_aload_n (i := 1) d_Teller_tell_58 rfl rfl ?_
    refine ab_getR (ci := 1) (k := 4) (j := kx_now_cables_second) d_Teller_tell_59 v_212 rfl (by decide) (by decide) rfl r_kx_now_cables_4 ?_
    refine ab_iload_n (i := 2) d_Teller_tell_62 rfl rfl ?_
    refine ab_iald d_Teller_tell_63 rfl rfl g4 ?_
    obtain ⟨I10, hC, h⟩ := h
    refine ab_callV (me2 := mt_Teller_put_I) (b := kx_teller) (as := [.int (I8 kx_now_cables_second v2.toNatClampNeg)]) (st := []) (rv := none) (M2 := (I10, L, ab_RR, n, nc, ns)) d_Teller_tell_64 ce_Teller_put_I v_1234 v_1236 v_58 (by decide) rfl (Nat.le_of_ble_eq_true rfl) hC (Nat.le_refl _) (Nat.le_refl _) hc hs (fun j h9 => by cases h9) (fun _ _ => rfl) ?_
    show ab_E w (d + 1) mt_Teller_tell 67 [.ref kx_teller, .ref kx_now_cables, .int v2] [] (I10, L, ab_RR, n, nc, ns) res
    refine ab_aload_n (i := 0) d_Teller_tell_67 rfl rfl ?_
    refine ab_ldcS (j := 5) (tx := " ") d_Teller_tell_68 (by decide) (by decide +kernel) ?_
    obtain ⟨I12, hC, h⟩ := h
    refine ab_callV (me2 := mt_Teller_put_S) (b := kx_teller) (as := [.ref 352]) (st := []) (rv := none) (M2 := (I12, L, ab_RR, n, nc, ns)) d_Teller_tell_70 ce_Teller_put_S v_1224 v_1226 v_56 (by decide) rfl (Nat.le_of_ble_eq_true rfl) hC (Nat.le_refl _) (Nat.le_refl _) hc hs (fun j h9 => by cases h9) (fun _ _ => rfl) ?_
    show ab_E w (d + 1) mt_Teller_tell 73 [.ref kx_teller, .ref kx_now_cables, .int v2] [] (I12, L, ab_RR, n, nc, ns) res
    refine ab_aload_n (i := 0) d_Teller_tell_73 rfl rfl ?_
    refine ab_aload_n (i := 1) d_Teller_tell_74 rfl rfl ?_
    refine ab_getR (ci := 1) (k := 5) (j := kx_now_cables_price) d_Teller_tell_75 v_219 rfl (by decide) (by decide) rfl r_kx_now_cables_5 ?_
    refine ab_iload_n (i := 2) d_Teller_tell_78 rfl rfl ?_
    refine ab_iald d_Teller_tell_79 rfl rfl g4 ?_
    obtain ⟨I14, hC, h⟩ := h
    refine ab_callV (me2 := mt_Teller_put_I) (b := kx_teller) (as := [.int (I12 kx_now_cables_price v2.toNatClampNeg)]) (st := []) (rv := none) (M2 := (I14, L, ab_RR, n, nc, ns)) d_Teller_tell_80 ce_Teller_put_I v_1234 v_1236 v_58 (by decide) rfl (Nat.le_of_ble_eq_true rfl) hC (Nat.le_refl _) (Nat.le_refl _) hc hs (fun j h9 => by cases h9) (fun _ _ => rfl) ?_
    show ab_E w (d + 1) mt_Teller_tell 83 [.ref kx_teller, .ref kx_now_cables, .int v2] [] (I14, L, ab_RR, n, nc, ns) res
    refine ab_aload_n (i := 0) d_Teller_tell_83 rfl rfl ?_
    refine ab_ldcS (j := 5) (tx := " ") d_Teller_tell_84 (by decide) (by decide +kernel) ?_
    obtain ⟨I16, hC, h⟩ := h
    refine ab_callV (me2 := mt_Teller_put_S) (b := kx_teller) (as := [.ref 352]) (st := []) (rv := none) (M2 := (I16, L, ab_RR, n, nc, ns)) d_Teller_tell_86 ce_Teller_put_S v_1224 v_1226 v_56 (by decide) rfl (Nat.le_of_ble_eq_true rfl) hC (Nat.le_refl _) (Nat.le_refl _) hc hs (fun j h9 => by cases h9) (fun _ _ => rfl) ?_
    show ab_E w (d + 1) mt_Teller_tell 89 [.ref kx_teller, .ref kx_now_cables, .int v2] [] (I16, L, ab_RR, n, nc, ns) res
    refine ab_aload_n (i := 0) d_Teller_tell_89 rfl rfl ?_
    refine ab_aload_n (i := 1) d_Teller_tell_90 rfl rfl ?_
    refine ab_getR (ci := 1) (k := 6) (j := kx_now_cables_firm) d_Teller_tell_91 v_227 rfl (by decide) (by decide) rfl r_kx_now_cables_6 ?_
    refine ab_iload_n (i := 2) d_Teller_tell_94 rfl rfl ?_
    refine ab_iald d_Teller_tell_95 rfl rfl g4 ?_
    obtain ⟨I18, hC, h⟩ := h
    refine ab_callV (me2 := mt_Teller_put_I) (b := kx_teller) (as := [.int (I16 kx_now_cables_firm v2.toNatClampNeg)]) (st := []) (rv := none) (M2 := (I18, L, ab_RR, n, nc, ns)) d_Teller_tell_96 ce_Teller_put_I v_1234 v_1236 v_58 (by decide) rfl (Nat.le_of_ble_eq_true rfl) hC (Nat.le_refl _) (Nat.le_refl _) hc hs (fun j h9 => by cases h9) (fun _ _ => rfl) ?_
    show ab_E w (d + 1) mt_Teller_tell 99 [.ref kx_teller, .ref kx_now_cables, .int v2] [] (I18, L, ab_RR, n, nc, ns) res
    refine ab_aload_n (i := 0) d_Teller_tell_99 rfl rfl ?_
    refine ab_ldcS (j := 6) (tx := ";") d_Teller_tell_100 (by decide) (by decide +kernel) ?_
    obtain ⟨I20, hC, h⟩ := h
    refine ab_callV (me2 := mt_Teller_put_S) (b := kx_teller) (as := [.ref 416]) (st := []) (rv := none) (M2 := (I20, L, ab_RR, n, nc, ns)) d_Teller_tell_102 ce_Teller_put_S v_1224 v_1226 v_56 (by decide) rfl (Nat.le_of_ble_eq_true rfl) hC (Nat.le_refl _) (Nat.le_refl _) hc hs (fun j h9 => by cases h9) (fun _ _ => rfl) ?_
    show ab_E w (d + 1) mt_Teller_tell 105 [.ref kx_teller, .ref kx_now_cables, .int v2] [] (I20, L, ab_RR, n, nc, ns) res
    refine ab_iinc (i := 2) (v := (v2 + 1)) d_Teller_tell_105 rfl rfl (by decide) (Or.inr rfl) ?_
    refine ab_goto (tgt := 27) d_Teller_tell_108 (by decide) ?_
    exact h
theorem r_Teller_tell_113 {w : ab_Wd} {d n nc ns : Nat} {I : Nat → Nat → Int32} {L : Nat → Nat → Int64} {res : ab_Re} (hT : w.1.stackTraces = false) (v2 : Int32) (hc : nc ≤ res.2.2.2.2.2.1) (hs : ns ≤ res.2.2.2.2.2.2)
    (h : (((I kx_now_cables 1) ≤ v2 → (res = (.inl none, (I, L, ab_RR, n, nc, ns)))) ∧ (¬ (I kx_now_cables 1) ≤ v2 → (((((I kx_now_cables 2) >>> (v2 &&& 31)) &&& 1) = 1 → (ab_E w (d + 1) mt_Teller_tell 113 [.ref kx_teller, .ref kx_now_cables, .int (v2 + 1)] [] (I, L, ab_RR, n, nc, ns) res)) ∧ (¬ (((I kx_now_cables 2) >>> (v2 &&& 31)) &&& 1) = 1 → (∃ (I5 : Nat → Nat → Int32), ab_C w d mt_Teller_put_S [.ref kx_teller, .ref 480] (I, L, ab_RR, n, nc, ns) (.inl none, (I5, L, ab_RR, n, nc, ns)) ∧ ∃ (I7 : Nat → Nat → Int32), ab_C w d mt_Teller_put_I [.ref kx_teller, .int v2] (I5, L, ab_RR, n, nc, ns) (.inl none, (I7, L, ab_RR, n, nc, ns)) ∧ ∃ (I9 : Nat → Nat → Int32), ab_C w d mt_Teller_put_S [.ref kx_teller, .ref 416] (I7, L, ab_RR, n, nc, ns) (.inl none, (I9, L, ab_RR, n, nc, ns)) ∧ ab_E w (d + 1) mt_Teller_tell 113 [.ref kx_teller, .ref kx_now_cables, .int (v2 + 1)] [] (I9, L, ab_RR, n, nc, ns) res)))))) : ab_E w (d + 1) mt_Teller_tell 113 [.ref kx_teller, .ref kx_now_cables, .int v2] [] (I, L, ab_RR, n, nc, ns) res := by
  refine ab_iload_n (i := 2) d_Teller_tell_113 rfl rfl ?_
  refine ab_aload_n (i := 1) d_Teller_tell_114 rfl rfl ?_
  refine ab_getI (ci := 1) (k := 1) d_Teller_tell_115 v_193 rfl (by decide) (by decide) rfl ?_
  refine ab_icmp_ge (tgt := 152) d_Teller_tell_118 (by decide) (fun c1 => ?_) (fun c1 => ?_)
  · have h := h.1 c1
    exact ab_vret d_Teller_tell_152 rfl h
  · have h := h.2 c1
    refine ab_aload_n (i := 1) d_Teller_tell_121 rfl rfl ?_
    refine ab_iload_n (i := 2) d_Teller_tell_122 rfl rfl ?_
    by_cases c3 : (((I kx_now_cables 2) >>> (v2 &&& 31)) &&& 1) = 1
    · have h := h.1 c3
      refine ab_callV (me2 := mt_Cables_isSound) (b := kx_now_cables) (as := [.int v2]) (st := []) (rv := (some (.int 1))) (M2 := (I, L, ab_RR, n, nc, ns)) d_Teller_tell_123 ce_Cables_isSound v_1241 v_540 v_541 (by decide) rfl (Nat.le_of_ble_eq_true rfl) (cx_Cables_isSound_0_1 v2 hT c3) (Nat.le_refl _) (Nat.le_refl _) hc hs (fun j h9 => by cases h9) (fun _ _ => rfl) ?_
      show ab_E w (d + 1) mt_Teller_tell 126 [.ref kx_teller, .ref kx_now_cables, .int v2] [.int 1] (I, L, ab_RR, n, nc, ns) res
      refine ab_if_ne (tgt := 146) d_Teller_tell_126 (by decide) (fun _ => ?_) (fun c9 => absurd c9 (show ¬ (1 : Int32) = 0 from by decide))
      refine ab_iinc (i := 2) (v := (v2 + 1)) d_Teller_tell_146 rfl rfl (by decide) (Or.inr rfl) ?_
      refine ab_goto (tgt := 113) d_Teller_tell_149 (by decide) ?_
      exact h
    · have h := h.2 c3
      refine ab_callV (me2 := mt_Cables_isSound) (b := kx_now_cables) (as := [.int v2]) (st := []) (rv := (some (.int 0))) (M2 := (I, L, ab_RR, n, nc, ns)) d_Teller_tell_123 ce_Cables_isSound v_1241 v_540 v_541 (by decide) rfl (Nat.le_of_ble_eq_true rfl) (cx_Cables_isSound_0_0 v2 hT c3) (Nat.le_refl _) (Nat.le_refl _) hc hs (fun j h9 => by cases h9) (fun _ _ => rfl) ?_
      show ab_E w (d + 1) mt_Teller_tell 126 [.ref kx_teller, .ref kx_now_cables, .int v2] [.int 0] (I, L, ab_RR, n, nc, ns) res
      refine ab_if_ne (tgt := 146) d_Teller_tell_126 (by decide) (fun c9 => absurd (show (0 : Int32) = 0 from by decide) c9) (fun _ => ?_)
      refine ab_aload_n (i := 0) d_Teller_tell_129 rfl rfl ?_
      refine ab_ldcS (j := 7) (tx := "broken ") d_Teller_tell_130 (by decide) (by decide +kernel) ?_
      obtain ⟨I5, hC, h⟩ := h
      refine ab_callV (me2 := mt_Teller_put_S) (b := kx_teller) (as := [.ref 480]) (st := []) (rv := none) (M2 := (I5, L, ab_RR, n, nc, ns)) d_Teller_tell_132 ce_Teller_put_S v_1224 v_1226 v_56 (by decide) rfl (Nat.le_of_ble_eq_true rfl) hC (Nat.le_refl _) (Nat.le_refl _) hc hs (fun j h9 => by cases h9) (fun _ _ => rfl) ?_
      show ab_E w (d + 1) mt_Teller_tell 135 [.ref kx_teller, .ref kx_now_cables, .int v2] [] (I5, L, ab_RR, n, nc, ns) res
      refine ab_aload_n (i := 0) d_Teller_tell_135 rfl rfl ?_
      refine ab_iload_n (i := 2) d_Teller_tell_136 rfl rfl ?_
      obtain ⟨I7, hC, h⟩ := h
      refine ab_callV (me2 := mt_Teller_put_I) (b := kx_teller) (as := [.int v2]) (st := []) (rv := none) (M2 := (I7, L, ab_RR, n, nc, ns)) d_Teller_tell_137 ce_Teller_put_I v_1234 v_1236 v_58 (by decide) rfl (Nat.le_of_ble_eq_true rfl) hC (Nat.le_refl _) (Nat.le_refl _) hc hs (fun j h9 => by cases h9) (fun _ _ => rfl) ?_
      show ab_E w (d + 1) mt_Teller_tell 140 [.ref kx_teller, .ref kx_now_cables, .int v2] [] (I7, L, ab_RR, n, nc, ns) res
      refine ab_aload_n (i := 0) d_Teller_tell_140 rfl rfl ?_
      refine ab_ldcS (j := 6) (tx := ";") d_Teller_tell_141 (by decide) (by decide +kernel) ?_
      obtain ⟨I9, hC, h⟩ := h
      refine ab_callV (me2 := mt_Teller_put_S) (b := kx_teller) (as := [.ref 416]) (st := []) (rv := none) (M2 := (I9, L, ab_RR, n, nc, ns)) d_Teller_tell_143 ce_Teller_put_S v_1224 v_1226 v_56 (by decide) rfl (Nat.le_of_ble_eq_true rfl) hC (Nat.le_refl _) (Nat.le_refl _) hc hs (fun j h9 => by cases h9) (fun _ _ => rfl) ?_
      show ab_E w (d + 1) mt_Teller_tell 146 [.ref kx_teller, .ref kx_now_cables, .int v2] [] (I9, L, ab_RR, n, nc, ns) res
      refine ab_iinc (i := 2) (v := (v2 + 1)) d_Teller_tell_146 rfl rfl (by decide) (Or.inr rfl) ?_
      refine ab_goto (tgt := 113) d_Teller_tell_149 (by decide) ?_
      exact h
theorem r_Roads_joining_0 {w : ab_Wd} {d n nc ns : Nat} {I : Nat → Nat → Int32} {L : Nat → Nat → Int64} {res : ab_Re} (hT : w.1.stackTraces = false) (v2 : Int32) (hc : nc ≤ res.2.2.2.2.2.1) (hs : ns ≤ res.2.2.2.2.2.2)
    (h : ∃ (r1 : Int32), ab_C w d mt_Integer_bitCount [.int v2] (I, L, ab_RR, n, nc, ns) (.inl (some (.int r1)), (I, L, ab_RR, n, nc, ns)) ∧ ((2 ≤ r1 → (∃ (I4 : Nat → Nat → Int32), ab_C w d mt_Roads_measure [.ref kx_roads, .ref kx_now_cables] (I, L, ab_RR, n, nc, ns) (.inl none, (I4, L, ab_RR, n, nc, ns)) ∧ ab_E w (d + 1) mt_Roads_joining 24 [.ref kx_roads, .ref kx_now_cables, .int v2, .int r1, .int 1000000, .int 0] [] (I4, L, ab_RR, n, nc, ns) res)) ∧ (¬ 2 ≤ r1 → (res = (.inl (some (.int 0)), (I, L, ab_RR, n, nc, ns)))))) : ab_E w (d + 1) mt_Roads_joining 0 [.ref kx_roads, .ref kx_now_cables, .int v2, .null, .null, .null] [] (I, L, ab_RR, n, nc, ns) res := by
  refine ab_iload_n (i := 2) d_Roads_joining_0 rfl rfl ?_
  obtain ⟨r1, hC, h⟩ := h
  refine ab_callS (me2 := mt_Integer_bitCount) (as := [.int v2]) (st := []) (rv := (some (.int r1))) (M2 := (I, L, ab_RR, n, nc, ns)) d_Roads_joining_1 ce_Integer_bitCount ⟨v_965, Or.inl v_1254⟩ (Nat.le_of_ble_eq_true rfl) hC (Nat.le_refl _) (Nat.le_refl _) hc hs (fun j h9 => by cases h9) (fun _ _ => rfl) ?_
  show ab_E w (d + 1) mt_Roads_joining 4 [.ref kx_roads, .ref kx_now_cables, .int v2, .null, .null, .null] [.int r1] (I, L, ab_RR, n, nc, ns) res
  refine ab_istore_n (i := 3) d_Roads_joining_4 rfl (by decide) (Or.inr rfl) ?_
  refine ab_iload_n (i := 3) d_Roads_joining_5 rfl rfl ?_
  refine ab_iconst (v := 2) d_Roads_joining_6 rfl ?_
  refine ab_icmp_ge (tgt := 12) d_Roads_joining_7 (by decide) (fun c2 => ?_) (fun c2 => ?_)
  · have h := h.1 c2
    refine ab_aload_n (i := 0) d_Roads_joining_12 rfl rfl ?_
    refine ab_aload_n (i := 1) d_Roads_joining_13 rfl rfl ?_
    obtain ⟨I4, hC, h⟩ := h
    refine ab_callV (me2 := mt_Roads_measure) (b := kx_roads) (as := [.ref kx_now_cables]) (st := []) (rv := none) (M2 := (I4, L, ab_RR, n, nc, ns)) d_Roads_joining_14 ce_Roads_measure v_1151 v_1030 v_1031 (by decide) rfl (Nat.le_of_ble_eq_true rfl) hC (Nat.le_refl _) (Nat.le_refl _) hc hs (fun j h9 => by cases h9) (fun _ _ => rfl) ?_
    show ab_E w (d + 1) mt_Roads_joining 17 [.ref kx_roads, .ref kx_now_cables, .int v2, .int r1, .null, .null] [] (I4, L, ab_RR, n, nc, ns) res
    refine ab_ldc (v := 1000000) d_Roads_joining_17 v_1033 ?_
    refine ab_istore (i := 4) d_Roads_joining_19 (by decide) (Or.inr rfl) ?_
    refine ab_iconst (v := 0) d_Roads_joining_21 rfl ?_
    refine ab_istore (i := 5) d_Roads_joining_22 (by decide) (Or.inr rfl) ?_
    exact h
  · have h := h.2 c2
    refine ab_iconst (v := 0) d_Roads_joining_10 rfl ?_
    exact ab_iret (ty := .int) d_Roads_joining_11 rfl rfl h
theorem r_Roads_joining_24 {w : ab_Wd} {d n nc ns : Nat} {I : Nat → Nat → Int32} {L : Nat → Nat → Int64} {res : ab_Re} (hT : w.1.stackTraces = false) (v2 : Int32) (v3 : Int32) (v4 : Int32) (v5 : Int32) (hc : nc ≤ res.2.2.2.2.2.1) (hs : ns ≤ res.2.2.2.2.2.2)
    (h : ((((1 : Int32) <<< ((I kx_roads 0) &&& 31)) ≤ v5 → ((1000000 ≤ v4 → (res = (.inl (some (.int (-1))), (I, L, ab_RR, n, nc, ns)))) ∧ (¬ 1000000 ≤ v4 → (res = (.inl (some (.int v4)), (I, L, ab_RR, n, nc, ns)))))) ∧ (¬ ((1 : Int32) <<< ((I kx_roads 0) &&& 31)) ≤ v5 → ((¬ (v5 &&& v2) = 0 → (ab_E w (d + 1) mt_Roads_joining 24 [.ref kx_roads, .ref kx_now_cables, .int v2, .int v3, .int v4, .int (v5 + 1)] [] (I, L, ab_RR, n, nc, ns) res)) ∧ ((v5 &&& v2) = 0 → (∃ (r5 : Int32), ab_C w d mt_Integer_bitCount [.int v5] (I, L, ab_RR, n, nc, ns) (.inl (some (.int r5)), (I, L, ab_RR, n, nc, ns)) ∧ (((v3 - 2) < r5 → (ab_E w (d + 1) mt_Roads_joining 24 [.ref kx_roads, .ref kx_now_cables, .int v2, .int v3, .int v4, .int (v5 + 1)] [] (I, L, ab_RR, n, nc, ns) res)) ∧ (¬ (v3 - 2) < r5 → (∃ (r7 : Int32) (I8 : Nat → Nat → Int32), ab_C w d mt_Roads_spread [.ref kx_roads, .int (v2 ||| v5)] (I, L, ab_RR, n, nc, ns) (.inl (some (.int r7)), (I8, L, ab_RR, n, nc, ns)) ∧ ab_E w (d + 1) mt_Roads_joining 24 [.ref kx_roads, .ref kx_now_cables, .int v2, .int v3, .int (ab_min32 v4 r7), .int (v5 + 1)] [] (I8, L, ab_RR, n, nc, ns) res))))))))) : ab_E w (d + 1) mt_Roads_joining 24 [.ref kx_roads, .ref kx_now_cables, .int v2, .int v3, .int v4, .int v5] [] (I, L, ab_RR, n, nc, ns) res := by
  refine ab_iload (i := 5) d_Roads_joining_24 rfl ?_
  refine ab_iconst (v := 1) d_Roads_joining_26 rfl ?_
  refine ab_aload_n (i := 0) d_Roads_joining_27 rfl rfl ?_
  refine ab_getI (ci := 5) (k := 0) d_Roads_joining_28 v_385 rfl (by decide) (by decide) rfl ?_
  refine ab_ishl d_Roads_joining_31 ?_
  refine ab_icmp_ge (tgt := 74) d_Roads_joining_32 (by decide) (fun c1 => ?_) (fun c1 => ?_)
  · have h := h.1 c1
    refine ab_iload (i := 4) d_Roads_joining_74 rfl ?_
    by_cases c3 : 1000000 ≤ v4
    · have h := h.1 c3
      refine ab_callS (me2 := mt_Roads_orNone) (as := [.int v4]) (st := []) (rv := (some (.int (-1)))) (M2 := (I, L, ab_RR, n, nc, ns)) d_Roads_joining_76 ce_Roads_orNone ⟨v_1153, Or.inl v_1152⟩ (Nat.le_of_ble_eq_true rfl) (cx_Roads_orNone_0 v4 hT c3) (Nat.le_refl _) (Nat.le_refl _) hc hs (fun j h9 => by cases h9) (fun _ _ => rfl) ?_
      show ab_E w (d + 1) mt_Roads_joining 79 [.ref kx_roads, .ref kx_now_cables, .int v2, .int v3, .int v4, .int v5] [.int (-1)] (I, L, ab_RR, n, nc, ns) res
      exact ab_iret (ty := .int) d_Roads_joining_79 rfl rfl h
    · have h := h.2 c3
      refine ab_callS (me2 := mt_Roads_orNone) (as := [.int v4]) (st := []) (rv := (some (.int v4))) (M2 := (I, L, ab_RR, n, nc, ns)) d_Roads_joining_76 ce_Roads_orNone ⟨v_1153, Or.inl v_1152⟩ (Nat.le_of_ble_eq_true rfl) (cx_Roads_orNone_1 v4 hT c3) (Nat.le_refl _) (Nat.le_refl _) hc hs (fun j h9 => by cases h9) (fun _ _ => rfl) ?_
      show ab_E w (d + 1) mt_Roads_joining 79 [.ref kx_roads, .ref kx_now_cables, .int v2, .int v3, .int v4, .int v5] [.int v4] (I, L, ab_RR, n, nc, ns) res
      exact ab_iret (ty := .int) d_Roads_joining_79 rfl rfl h
  · have h := h.2 c1
    refine ab_iload (i := 5) d_Roads_joining_35 rfl ?_
    refine ab_iload_n (i := 2) d_Roads_joining_37 rfl rfl ?_
    refine ab_iand d_Roads_joining_38 ?_
    refine ab_if_ne (tgt := 68) d_Roads_joining_39 (by decide) (fun c4 => ?_) (fun c4 => ?_)
    · have h := h.1 c4
      refine ab_iinc (i := 5) (v := (v5 + 1)) d_Roads_joining_68 rfl rfl (by decide) (Or.inr rfl) ?_
      refine ab_goto (tgt := 24) d_Roads_joining_71 (by decide) ?_
      exact h
    · have h := h.2 c4
      refine ab_iload (i := 5) d_Roads_joining_42 rfl ?_
      obtain ⟨r5, hC, h⟩ := h
      refine ab_callS (me2 := mt_Integer_bitCount) (as := [.int v5]) (st := []) (rv := (some (.int r5))) (M2 := (I, L, ab_RR, n, nc, ns)) d_Roads_joining_44 ce_Integer_bitCount ⟨v_965, Or.inl v_1254⟩ (Nat.le_of_ble_eq_true rfl) hC (Nat.le_refl _) (Nat.le_refl _) hc hs (fun j h9 => by cases h9) (fun _ _ => rfl) ?_
      show ab_E w (d + 1) mt_Roads_joining 47 [.ref kx_roads, .ref kx_now_cables, .int v2, .int v3, .int v4, .int v5] [.int r5] (I, L, ab_RR, n, nc, ns) res
      refine ab_iload_n (i := 3) d_Roads_joining_47 rfl rfl ?_
      refine ab_iconst (v := 2) d_Roads_joining_48 rfl ?_
      refine ab_isub d_Roads_joining_49 ?_
      refine ab_icmp_gt (tgt := 68) d_Roads_joining_50 (by decide) (fun c6 => ?_) (fun c6 => ?_)
      · have h := h.1 c6
        refine ab_iinc (i := 5) (v := (v5 + 1)) d_Roads_joining_68 rfl rfl (by decide) (Or.inr rfl) ?_
        refine ab_goto (tgt := 24) d_Roads_joining_71 (by decide) ?_
        exact h
      · have h := h.2 c6
        refine ab_iload (i := 4) d_Roads_joining_53 rfl ?_
        refine ab_aload_n (i := 0) d_Roads_joining_55 rfl rfl ?_
        refine ab_iload_n (i := 2) d_Roads_joining_56 rfl rfl ?_
        refine ab_iload (i := 5) d_Roads_joining_57 rfl ?_
        refine ab_ior d_Roads_joining_59 ?_
        obtain ⟨r7, I8, hC, h⟩ := h
        refine ab_callV (me2 := mt_Roads_spread) (b := kx_roads) (as := [.int (v2 ||| v5)]) (st := [.int v4]) (rv := (some (.int r7))) (M2 := (I8, L, ab_RR, n, nc, ns)) d_Roads_joining_60 ce_Roads_spread v_1255 v_1257 v_59 (by decide) rfl (Nat.le_of_ble_eq_true rfl) hC (Nat.le_refl _) (Nat.le_refl _) hc hs (fun j h9 => by cases h9) (fun _ _ => rfl) ?_
        show ab_E w (d + 1) mt_Roads_joining 63 [.ref kx_roads, .ref kx_now_cables, .int v2, .int v3, .int v4, .int v5] [.int r7, .int v4] (I8, L, ab_RR, n, nc, ns) res
        refine ab_min d_Roads_joining_63 v_1038 v_448 v_150 v_449 (Nat.succ_le_succ (Nat.zero_le _)) (Nat.le_of_ble_eq_true rfl) hc hs ?_
        refine ab_istore (i := 4) d_Roads_joining_66 (by decide) (Or.inr rfl) ?_
        refine ab_iinc (i := 5) (v := (v5 + 1)) d_Roads_joining_68 rfl rfl (by decide) (Or.inr rfl) ?_
        refine ab_goto (tgt := 24) d_Roads_joining_71 (by decide) ?_
        exact h
theorem r_State_keepAct_0 {w : ab_Wd} {d n nc ns : Nat} {I : Nat → Nat → Int32} {L : Nat → Nat → Int64} {res : ab_Re} (hT : w.1.stackTraces = false)  (hc : nc ≤ res.2.2.2.2.2.1) (hs : ns ≤ res.2.2.2.2.2.2)
    (h : ∃ (I2 : Nat → Nat → Int32), ab_C w d mt_Acts_keep [.ref kx_now_acts, .ref kx_now_cables, .int (I kx_now_swaps 1)] (I, L, ab_RR, n, nc, ns) (.inl none, (I2, L, ab_RR, n, nc, ns)) ∧ res = (.inl none, (I2, L, ab_RR, n, nc, ns))) : ab_E w (d + 1) mt_State_keepAct 0 [.ref kx_now] [] (I, L, ab_RR, n, nc, ns) res := by
  refine ab_aload_n (i := 0) d_State_keepAct_0 rfl rfl ?_
  refine ab_getR (ci := 6) (k := 2) (j := kx_now_acts) d_State_keepAct_1 v_297 rfl (by decide) (by decide) rfl r_kx_now_2 ?_
  refine ab_aload_n (i := 0) d_State_keepAct_4 rfl rfl ?_
  refine ab_getR (ci := 6) (k := 0) (j := kx_now_cables) d_State_keepAct_5 v_293 rfl (by decide) (by decide) rfl r_kx_now_0 ?_
  refine ab_aload_n (i := 0) d_State_keepAct_8 rfl rfl ?_
  refine ab_getR (ci := 6) (k := 1) (j := kx_now_swaps) d_State_keepAct_9 v_295 rfl (by decide) (by decide) rfl r_kx_now_1 ?_
  refine ab_getI (ci := 7) (k := 1) d_State_keepAct_12 v_260 rfl (by decide) (by decide) rfl ?_
  obtain ⟨I2, hC, h⟩ := h
  refine ab_callV (me2 := mt_Acts_keep) (b := kx_now_acts) (as := [.ref kx_now_cables, .int (I kx_now_swaps 1)]) (st := []) (rv := none) (M2 := (I2, L, ab_RR, n, nc, ns)) d_State_keepAct_15 ce_Acts_keep v_582 v_583 v_584 (by decide) rfl (Nat.le_of_ble_eq_true rfl) hC (Nat.le_refl _) (Nat.le_refl _) hc hs (fun j h9 => by cases h9) (fun _ _ => rfl) ?_
  show ab_E w (d + 1) mt_State_keepAct 18 [.ref kx_now] [] (I2, L, ab_RR, n, nc, ns) res
  exact ab_vret d_State_keepAct_18 rfl h
theorem r_Ways_trace_0 {w : ab_Wd} {d n nc ns : Nat} {I : Nat → Nat → Int32} {L : Nat → Nat → Int64} {res : ab_Re} (hT : w.1.stackTraces = false)  (hc : nc ≤ res.2.2.2.2.2.1) (hs : ns ≤ res.2.2.2.2.2.2)
    (h : ab_E w (d + 1) mt_Ways_trace 10 [.ref kx_ways, .ref kx_now_cables, .ref kx_forest, .int 0] [] ((ab_up I kx_ways 0 (I kx_now_cables 0)), L, ab_RR, n, nc, ns) res) : ab_E w (d + 1) mt_Ways_trace 0 [.ref kx_ways, .ref kx_now_cables, .ref kx_forest, .null] [] (I, L, ab_RR, n, nc, ns) res := by
  refine ab_aload_n (i := 0) d_Ways_trace_0 rfl rfl ?_
  refine ab_aload_n (i := 1) d_Ways_trace_1 rfl rfl ?_
  refine ab_getI (ci := 1) (k := 0) d_Ways_trace_2 v_191 rfl (by decide) (by decide) rfl ?_
  refine ab_putI (ci := 9) (k := 0) d_Ways_trace_5 v_361 rfl (by decide) (by decide) rfl (Or.inl rfl) rfl rfl ?_
  refine ab_iconst (v := 0) d_Ways_trace_8 rfl ?_
  refine ab_istore_n (i := 3) d_Ways_trace_9 rfl (by decide) (Or.inr rfl) ?_
  exact h
theorem r_Ways_trace_10 {w : ab_Wd} {d n nc ns : Nat} {I : Nat → Nat → Int32} {L : Nat → Nat → Int64} {res : ab_Re} (hT : w.1.stackTraces = false) (v3 : Int32) (hc : nc ≤ res.2.2.2.2.2.1) (hs : ns ≤ res.2.2.2.2.2.2)
    (h : ((100 ≤ v3 → (ab_E w (d + 1) mt_Ways_trace 55 [.ref kx_ways, .ref kx_now_cables, .ref kx_forest, .int 0] [] (I, L, ab_RR, n, nc, ns) res)) ∧ (¬ 100 ≤ v3 → ((vp_in v3 100) ∧ ab_E w (d + 1) mt_Ways_trace 10 [.ref kx_ways, .ref kx_now_cables, .ref kx_forest, .int (v3 + 1)] [] ((ab_up (ab_up (ab_up (ab_up I kx_ways_span v3.toNatClampNeg (-1)) kx_ways_hops v3.toNatClampNeg (-1)) kx_ways_step v3.toNatClampNeg (-1)) kx_ways_dearest v3.toNatClampNeg (-1)), L, ab_RR, n, nc, ns) res)))) : ab_E w (d + 1) mt_Ways_trace 10 [.ref kx_ways, .ref kx_now_cables, .ref kx_forest, .int v3] [] (I, L, ab_RR, n, nc, ns) res := by
  refine ab_iload_n (i := 3) d_Ways_trace_10 rfl rfl ?_
  refine ab_aload_n (i := 0) d_Ways_trace_11 rfl rfl ?_
  refine ab_getR (ci := 9) (k := 1) (j := kx_ways_span) d_Ways_trace_12 v_362 rfl (by decide) (by decide) rfl r_kx_ways_1 ?_
  refine ab_alen (v := 100) d_Ways_trace_15 (by decide) (by decide) rfl ?_
  refine ab_icmp_ge (tgt := 53) d_Ways_trace_16 (by decide) (fun c1 => ?_) (fun c1 => ?_)
  · have h := h.1 c1
    refine ab_iconst (v := 0) d_Ways_trace_53 rfl ?_
    refine ab_istore_n (i := 3) d_Ways_trace_54 rfl (by decide) (Or.inr rfl) ?_
    exact h
  · have h := h.2 c1
    refine ab_aload_n (i := 0) d_Ways_trace_19 rfl rfl ?_
    refine ab_getR (ci := 9) (k := 1) (j := kx_ways_span) d_Ways_trace_20 v_362 rfl (by decide) (by decide) rfl r_kx_ways_1 ?_
    refine ab_iload_n (i := 3) d_Ways_trace_23 rfl rfl ?_
    refine ab_iconst (v := (-1)) d_Ways_trace_24 rfl ?_
    have g2 := h.1; have h := h.2
    refine ab_iast d_Ways_trace_25 rfl rfl g2 ?_
    refine ab_aload_n (i := 0) d_Ways_trace_26 rfl rfl ?_
    refine ab_getR (ci := 9) (k := 2) (j := kx_ways_hops) d_Ways_trace_27 v_363 rfl (by decide) (by decide) rfl r_kx_ways_2 ?_
    refine ab_iload_n (i := 3) d_Ways_trace_30 rfl rfl ?_
    refine ab_iconst (v := (-1)) d_Ways_trace_31 rfl ?_
    refine ab_iast d_Ways_trace_32 rfl rfl g2 ?_
    refine ab_aload_n (i := 0) d_Ways_trace_33 rfl rfl ?_
    refine ab_getR (ci := 9) (k := 3) (j := kx_ways_step) d_Ways_trace_34 v_364 rfl (by decide) (by decide) rfl r_kx_ways_3 ?_
    refine ab_iload_n (i := 3) d_Ways_trace_37 rfl rfl ?_
    refine ab_iconst (v := (-1)) d_Ways_trace_38 rfl ?_
    refine ab_iast d_Ways_trace_39 rfl rfl g2 ?_
    refine ab_aload_n (i := 0) d_Ways_trace_40 rfl rfl ?_
    refine ab_getR (ci := 9) (k := 4) (j := kx_ways_dearest) d_Ways_trace_41 v_365 rfl (by decide) (by decide) rfl r_kx_ways_4 ?_
    refine ab_iload_n (i := 3) d_Ways_trace_44 rfl rfl ?_
    refine ab_iconst (v := (-1)) d_Ways_trace_45 rfl ?_
    refine ab_iast d_Ways_trace_46 rfl rfl g2 ?_
    refine ab_iinc (i := 3) (v := (v3 + 1)) d_Ways_trace_47 rfl rfl (by decide) (Or.inr rfl) ?_
    refine ab_goto (tgt := 10) d_Ways_trace_50 (by decide) ?_
    exact h
theorem r_Ways_trace_55 {w : ab_Wd} {d n nc ns : Nat} {I : Nat → Nat → Int32} {L : Nat → Nat → Int64} {res : ab_Re} (hT : w.1.stackTraces = false) (v3 : Int32) (hc : nc ≤ res.2.2.2.2.2.1) (hs : ns ≤ res.2.2.2.2.2.2)
    (h : (((I kx_ways 0) ≤ v3 → (ab_E w (d + 1) mt_Ways_trace 93 [.ref kx_ways, .ref kx_now_cables, .ref kx_forest, .int 0] [] (I, L, ab_RR, n, nc, ns) res)) ∧ (¬ (I kx_ways 0) ≤ v3 → ((vp_in ((v3 * 10) + v3) 100) ∧ ab_E w (d + 1) mt_Ways_trace 55 [.ref kx_ways, .ref kx_now_cables, .ref kx_forest, .int (v3 + 1)] [] ((ab_up (ab_up I kx_ways_span ((v3 * 10) + v3).toNatClampNeg 0) kx_ways_hops ((v3 * 10) + v3).toNatClampNeg 0), L, ab_RR, n, nc, ns) res)))) : ab_E w (d + 1) mt_Ways_trace 55 [.ref kx_ways, .ref kx_now_cables, .ref kx_forest, .int v3] [] (I, L, ab_RR, n, nc, ns) res := by
  refine ab_iload_n (i := 3) d_Ways_trace_55 rfl rfl ?_
  refine ab_aload_n (i := 0) d_Ways_trace_56 rfl rfl ?_
  refine ab_getI (ci := 9) (k := 0) d_Ways_trace_57 v_361 rfl (by decide) (by decide) rfl ?_
  refine ab_icmp_ge (tgt := 91) d_Ways_trace_60 (by decide) (fun c1 => ?_) (fun c1 => ?_)
  · have h := h.1 c1
    refine ab_iconst (v := 0) d_Ways_trace_91 rfl ?_
    refine ab_istore_n (i := 3) d_Ways_trace_92 rfl (by decide) (Or.inr rfl) ?_
    exact h
  · have h := h.2 c1
    refine ab_aload_n (i := 0) d_Ways_trace_63 rfl rfl ?_
    refine ab_getR (ci := 9) (k := 1) (j := kx_ways_span) d_Ways_trace_64 v_362 rfl (by decide) (by decide) rfl r_kx_ways_1 ?_
    refine ab_iload_n (i := 3) d_Ways_trace_67 rfl rfl ?_
    refine ab_iload_n (i := 3) d_Ways_trace_68 rfl rfl ?_
    refine ab_callS (me2 := mt_Ways_at) (as := [.int v3, .int v3]) (st := [.ref kx_ways_span]) (rv := (some (.int ((v3 * 10) + v3)))) (M2 := (I, L, ab_RR, n, nc, ns)) d_Ways_trace_69 ce_Ways_at ⟨v_458, Or.inl v_457⟩ (Nat.le_of_ble_eq_true rfl) (cx_Ways_at_0 v3 v3 hT) (Nat.le_refl _) (Nat.le_refl _) hc hs (fun j h9 => by cases h9) (fun _ _ => rfl) ?_
    show ab_E w (d + 1) mt_Ways_trace 72 [.ref kx_ways, .ref kx_now_cables, .ref kx_forest, .int v3] [.int ((v3 * 10) + v3), .ref kx_ways_span] (I, L, ab_RR, n, nc, ns) res
    refine ab_iconst (v := 0) d_Ways_trace_72 rfl ?_
    have g3 := h.1; have h := h.2
    refine ab_iast d_Ways_trace_73 rfl rfl g3 ?_
    refine ab_aload_n (i := 0) d_Ways_trace_74 rfl rfl ?_
    refine ab_getR (ci := 9) (k := 2) (j := kx_ways_hops) d_Ways_trace_75 v_363 rfl (by decide) (by decide) rfl r_kx_ways_2 ?_
    refine ab_iload_n (i := 3) d_Ways_trace_78 rfl rfl ?_
    refine ab_iload_n (i := 3) d_Ways_trace_79 rfl rfl ?_
    refine ab_callS (me2 := mt_Ways_at) (as := [.int v3, .int v3]) (st := [.ref kx_ways_hops]) (rv := (some (.int ((v3 * 10) + v3)))) (M2 := ((ab_up I kx_ways_span ((v3 * 10) + v3).toNatClampNeg 0), L, ab_RR, n, nc, ns)) d_Ways_trace_80 ce_Ways_at ⟨v_458, Or.inl v_457⟩ (Nat.le_of_ble_eq_true rfl) (cx_Ways_at_0 v3 v3 hT) (Nat.le_refl _) (Nat.le_refl _) hc hs (fun j h9 => by cases h9) (fun _ _ => rfl) ?_
    show ab_E w (d + 1) mt_Ways_trace 83 [.ref kx_ways, .ref kx_now_cables, .ref kx_forest, .int v3] [.int ((v3 * 10) + v3), .ref kx_ways_hops] ((ab_up I kx_ways_span ((v3 * 10) + v3).toNatClampNeg 0), L, ab_RR, n, nc, ns) res
    refine ab_iconst (v := 0) d_Ways_trace_83 rfl ?_
    refine ab_iast d_Ways_trace_84 rfl rfl g3 ?_
    refine ab_iinc (i := 3) (v := (v3 + 1)) d_Ways_trace_85 rfl rfl (by decide) (Or.inr rfl) ?_
    refine ab_goto (tgt := 55) d_Ways_trace_88 (by decide) ?_
    exact h
theorem r_Ways_trace_93 {w : ab_Wd} {d n nc ns : Nat} {I : Nat → Nat → Int32} {L : Nat → Nat → Int64} {res : ab_Re} (hT : w.1.stackTraces = false) (v3 : Int32) (hc : nc ≤ res.2.2.2.2.2.1) (hs : ns ≤ res.2.2.2.2.2.2)
    (h : (((I kx_forest 1) ≤ v3 → (res = (.inl none, (I, L, ab_RR, n, nc, ns)))) ∧ (¬ (I kx_forest 1) ≤ v3 → ((vp_in v3 9) ∧ ∃ (I4 : Nat → Nat → Int32), ab_C w d mt_Ways_connect [.ref kx_ways, .ref kx_now_cables, .int (I kx_forest_order v3.toNatClampNeg)] (I, L, ab_RR, n, nc, ns) (.inl none, (I4, L, ab_RR, n, nc, ns)) ∧ ab_E w (d + 1) mt_Ways_trace 93 [.ref kx_ways, .ref kx_now_cables, .ref kx_forest, .int (v3 + 1)] [] (I4, L, ab_RR, n, nc, ns) res)))) : ab_E w (d + 1) mt_Ways_trace 93 [.ref kx_ways, .ref kx_now_cables, .ref kx_forest, .int v3] [] (I, L, ab_RR, n, nc, ns) res := by
  refine ab_iload_n (i := 3) d_Ways_trace_93 rfl rfl ?_
  refine ab_aload_n (i := 2) d_Ways_trace_94 rfl rfl ?_
  refine ab_getI (ci := 2) (k := 1) d_Ways_trace_95 v_332 rfl (by decide) (by decide) rfl ?_
  refine ab_icmp_ge (tgt := 118) d_Ways_trace_98 (by decide) (fun c1 => ?_) (fun c1 => ?_)
  · have h := h.1 c1
    exact ab_vret d_Ways_trace_118 rfl h
  · have h := h.2 c1
    refine ab_aload_n (i := 0) d_Ways_trace_101 rfl rfl ?_
    refine ab_aload_n (i := 1) d_Ways_trace_102 rfl rfl ?_
    refine ab_aload_n (i := 2) d_Ways_trace_103 rfl rfl ?_
    refine ab_getR (ci := 2) (k := 0) (j := kx_forest_order) d_Ways_trace_104 v_329 rfl (by decide) (by decide) rfl r_kx_forest_0 ?_
    refine ab_iload_n (i := 3) d_Ways_trace_107 rfl rfl ?_
    have g2 := h.1; have h := h.2
    refine ab_iald d_Ways_trace_108 rfl rfl g2 ?_
    obtain ⟨I4, hC, h⟩ := h
    refine ab_callV (me2 := mt_Ways_connect) (b := kx_ways) (as := [.ref kx_now_cables, .int (I kx_forest_order v3.toNatClampNeg)]) (st := []) (rv := none) (M2 := (I4, L, ab_RR, n, nc, ns)) d_Ways_trace_109 ce_Ways_connect v_460 v_462 v_1 (by decide) rfl (Nat.le_of_ble_eq_true rfl) hC (Nat.le_refl _) (Nat.le_refl _) hc hs (fun j h9 => by cases h9) (fun _ _ => rfl) ?_
    show ab_E w (d + 1) mt_Ways_trace 112 [.ref kx_ways, .ref kx_now_cables, .ref kx_forest, .int v3] [] (I4, L, ab_RR, n, nc, ns) res
    refine ab_iinc (i := 3) (v := (v3 + 1)) d_Ways_trace_112 rfl rfl (by decide) (Or.inr rfl) ?_
    refine ab_goto (tgt := 93) d_Ways_trace_115 (by decide) ?_
    exact h
theorem r_Cables_sort_0_0 {w : ab_Wd} {d n nc ns : Nat} {I : Nat → Nat → Int32} {L : Nat → Nat → Int64} {res : ab_Re} (hT : w.1.stackTraces = false)  (hc : nc ≤ res.2.2.2.2.2.1) (hs : ns ≤ res.2.2.2.2.2.2)
    (h : ab_E w d mt_Cables_sort 2 [.ref kx_now_cables, .int 0, .null] [] (I, L, ab_RR, n, nc, ns) res) : ab_E w d mt_Cables_sort 0 [.ref kx_now_cables, .null, .null] [] (I, L, ab_RR, n, nc, ns) res := by
  refine ab_iconst (v := 0) d_Cables_sort_0 rfl ?_
  refine ab_istore_n (i := 1) d_Cables_sort_1 rfl (by decide) (Or.inr rfl) ?_
  exact h
theorem r_Cables_sort_0_2 {w : ab_Wd} {d n nc ns : Nat} {I : Nat → Nat → Int32} {L : Nat → Nat → Int64} {res : ab_Re} (hT : w.1.stackTraces = false) (v1 : Int32) (hc : nc ≤ res.2.2.2.2.2.1) (hs : ns ≤ res.2.2.2.2.2.2)
    (h : (((I kx_now_cables 1) ≤ v1 → (res = (.inl none, (I, L, ab_RR, n, nc, ns)))) ∧ (¬ (I kx_now_cables 1) ≤ v1 → (ab_E w d mt_Cables_sort 12 [.ref kx_now_cables, .int v1, .int v1] [] (I, L, ab_RR, n, nc, ns) res)))) : ab_E w d mt_Cables_sort 2 [.ref kx_now_cables, .int v1, .null] [] (I, L, ab_RR, n, nc, ns) res := by
  refine ab_iload_n (i := 1) d_Cables_sort_2 rfl rfl ?_
  refine ab_aload_n (i := 0) d_Cables_sort_3 rfl rfl ?_
  refine ab_getI (ci := 1) (k := 1) d_Cables_sort_4 v_192 rfl (by decide) (by decide) rfl ?_
  refine ab_icmp_ge (tgt := 71) d_Cables_sort_7 (by decide) (fun c1 => ?_) (fun c1 => ?_)
  · have h := h.1 c1
    exact ab_vret d_Cables_sort_71 rfl h
  · have h := h.2 c1
    refine ab_iload_n (i := 1) d_Cables_sort_10 rfl rfl ?_
    refine ab_istore_n (i := 2) d_Cables_sort_11 rfl (by decide) (Or.inr rfl) ?_
    exact h
theorem r_Cables_sort_0_12 {w : ab_Wd} {d n nc ns : Nat} {I : Nat → Nat → Int32} {L : Nat → Nat → Int64} {res : ab_Re} (hT : w.1.stackTraces = false) (v1 : Int32) (v2 : Int32) (hc : nc ≤ res.2.2.2.2.2.1) (hs : ns ≤ res.2.2.2.2.2.2)
    (h : ((v2 ≤ 0 → ((vp_in v2 24) ∧ ab_E w d mt_Cables_sort 2 [.ref kx_now_cables, .int (v1 + 1), .null] [] ((ab_up I kx_now_cables_order v2.toNatClampNeg v1), L, ab_RR, n, nc, ns) res)) ∧ (¬ v2 ≤ 0 → ((vp_in (v2 - 1) 24) ∧ (vp_in (I kx_now_cables_order (v2 - 1).toNatClampNeg) 24) ∧ (vp_in v1 24) ∧ (((I kx_now_cables_price (I kx_now_cables_order (v2 - 1).toNatClampNeg).toNatClampNeg) ≤ (I kx_now_cables_price v1.toNatClampNeg) → ((vp_in v2 24) ∧ ab_E w d mt_Cables_sort 2 [.ref kx_now_cables, .int (v1 + 1), .null] [] ((ab_up I kx_now_cables_order v2.toNatClampNeg v1), L, ab_RR, n, nc, ns) res)) ∧ (¬ (I kx_now_cables_price (I kx_now_cables_order (v2 - 1).toNatClampNeg).toNatClampNeg) ≤ (I kx_now_cables_price v1.toNatClampNeg) → ((vp_in v2 24) ∧ ab_E w d mt_Cables_sort 12 [.ref kx_now_cables, .int v1, .int (v2 + (-1))] [] ((ab_up I kx_now_cables_order v2.toNatClampNeg (I kx_now_cables_order (v2 - 1).toNatClampNeg)), L, ab_RR, n, nc, ns) res))))))) : ab_E w d mt_Cables_sort 12 [.ref kx_now_cables, .int v1, .int v2] [] (I, L, ab_RR, n, nc, ns) res := by
  refine ab_iload_n (i := 2) d_Cables_sort_12 rfl rfl ?_
  refine ab_if_le (tgt := 58) d_Cables_sort_13 (by decide) (fun c1 => ?_) (fun c1 => ?_)
  · have h := h.1 c1
    refine ab_aload_n (i := 0) d_Cables_sort_58 rfl rfl ?_
    refine ab_getR (ci := 1) (k := 7) (j := kx_now_cables_order) d_Cables_sort_59 v_229 rfl (by decide) (by decide) rfl r_kx_now_cables_7 ?_
    refine ab_iload_n (i := 2) d_Cables_sort_62 rfl rfl ?_
    refine ab_iload_n (i := 1) d_Cables_sort_63 rfl rfl ?_
    have g2 := h.1; have h := h.2
    refine ab_iast d_Cables_sort_64 rfl rfl g2 ?_
    refine ab_iinc (i := 1) (v := (v1 + 1)) d_Cables_sort_65 rfl rfl (by decide) (Or.inr rfl) ?_
    refine ab_goto (tgt := 2) d_Cables_sort_68 (by decide) ?_
    refine ab_drop 2 ?_
    exact h
  · have h := h.2 c1
    refine ab_aload_n (i := 0) d_Cables_sort_16 rfl rfl ?_
    refine ab_getR (ci := 1) (k := 5) (j := kx_now_cables_price) d_Cables_sort_17 v_218 rfl (by decide) (by decide) rfl r_kx_now_cables_5 ?_
    refine ab_aload_n (i := 0) d_Cables_sort_20 rfl rfl ?_
    refine ab_getR (ci := 1) (k := 7) (j := kx_now_cables_order) d_Cables_sort_21 v_229 rfl (by decide) (by decide) rfl r_kx_now_cables_7 ?_
    refine ab_iload_n (i := 2) d_Cables_sort_24 rfl rfl ?_
    refine ab_iconst (v := 1) d_Cables_sort_25 rfl ?_
    refine ab_isub d_Cables_sort_26 ?_
    have g3 := h.1; have h := h.2
    refine ab_iald d_Cables_sort_27 rfl rfl g3 ?_
    have g4 := h.1; have h := h.2
    refine ab_iald d_Cables_sort_28 rfl rfl g4 ?_
    refine ab_aload_n (i := 0) d_Cables_sort_29 rfl rfl ?_
    refine ab_getR (ci := 1) (k := 5) (j := kx_now_cables_price) d_Cables_sort_30 v_218 rfl (by decide) (by decide) rfl r_kx_now_cables_5 ?_
    refine ab_iload_n (i := 1) d_Cables_sort_33 rfl rfl ?_
    have g5 := h.1; have h := h.2
    refine ab_iald d_Cables_sort_34 rfl rfl g5 ?_
    refine ab_icmp_le (tgt := 58) d_Cables_sort_35 (by decide) (fun c6 => ?_) (fun c6 => ?_)
    · have h := h.1 c6
      refine ab_aload_n (i := 0) d_Cables_sort_58 rfl rfl ?_
      refine ab_getR (ci := 1) (k := 7) (j := kx_now_cables_order) d_Cables_sort_59 v_229 rfl (by decide) (by decide) rfl r_kx_now_cables_7 ?_
      refine ab_iload_n (i := 2) d_Cables_sort_62 rfl rfl ?_
      refine ab_iload_n (i := 1) d_Cables_sort_63 rfl rfl ?_
      have g7 := h.1; have h := h.2
      refine ab_iast d_Cables_sort_64 rfl rfl g7 ?_
      refine ab_iinc (i := 1) (v := (v1 + 1)) d_Cables_sort_65 rfl rfl (by decide) (Or.inr rfl) ?_
      refine ab_goto (tgt := 2) d_Cables_sort_68 (by decide) ?_
      refine ab_drop 2 ?_
      exact h
    · have h := h.2 c6
      refine ab_aload_n (i := 0) d_Cables_sort_38 rfl rfl ?_
      refine ab_getR (ci := 1) (k := 7) (j := kx_now_cables_order) d_Cables_sort_39 v_229 rfl (by decide) (by decide) rfl r_kx_now_cables_7 ?_
      refine ab_iload_n (i := 2) d_Cables_sort_42 rfl rfl ?_
      refine ab_aload_n (i := 0) d_Cables_sort_43 rfl rfl ?_
      refine ab_getR (ci := 1) (k := 7) (j := kx_now_cables_order) d_Cables_sort_44 v_229 rfl (by decide) (by decide) rfl r_kx_now_cables_7 ?_
      refine ab_iload_n (i := 2) d_Cables_sort_47 rfl rfl ?_
      refine ab_iconst (v := 1) d_Cables_sort_48 rfl ?_
      refine ab_isub d_Cables_sort_49 ?_
      refine ab_iald d_Cables_sort_50 rfl rfl g3 ?_
      have g8 := h.1; have h := h.2
      refine ab_iast d_Cables_sort_51 rfl rfl g8 ?_
      refine ab_iinc (i := 2) (v := (v2 + (-1))) d_Cables_sort_52 rfl rfl (by decide) (Or.inr rfl) ?_
      refine ab_goto (tgt := 12) d_Cables_sort_55 (by decide) ?_
      exact h
theorem r_Acts_takeBack_0 {w : ab_Wd} {d n nc ns : Nat} {I : Nat → Nat → Int32} {L : Nat → Nat → Int64} {res : ab_Re} (hT : w.1.stackTraces = false)  (hc : nc ≤ res.2.2.2.2.2.1) (hs : ns ≤ res.2.2.2.2.2.2)
    (h : (¬ ((((I kx_now_acts 4) + (ab_max32 0 ((I kx_now_acts 5) - 1))) - ((I kx_now_acts 4) + (ab_max32 0 ((I kx_now_acts 5) - 1))) / 40 * 40) * 24) < 0) ∧ (((((I kx_now_acts 4) + (ab_max32 0 ((I kx_now_acts 5) - 1))) - ((I kx_now_acts 4) + (ab_max32 0 ((I kx_now_acts 5) - 1))) / 40 * 40) * 24).toNatClampNeg + 24 ≤ 960) ∧ (vp_in (((I kx_now_acts 4) + (ab_max32 0 ((I kx_now_acts 5) - 1))) - ((I kx_now_acts 4) + (ab_max32 0 ((I kx_now_acts 5) - 1))) / 40 * 40) 40) ∧ ∃ (I5 : Nat → Nat → Int32), ab_C w d mt_Cables_sort [.ref kx_now_cables] ((ab_up (ab_up (ab_row (ab_up I kx_now_acts 5 (ab_max32 0 ((I kx_now_acts 5) - 1))) kx_now_cables_price (va_cpy (I kx_now_acts_prices) (I kx_now_cables_price) ((((I kx_now_acts 4) + (ab_max32 0 ((I kx_now_acts 5) - 1))) - ((I kx_now_acts 4) + (ab_max32 0 ((I kx_now_acts 5) - 1))) / 40 * 40) * 24).toNatClampNeg 0 24)) kx_now_cables 1 (I kx_now_acts_counts (((I kx_now_acts 4) + (ab_max32 0 ((I kx_now_acts 5) - 1))) - ((I kx_now_acts 4) + (ab_max32 0 ((I kx_now_acts 5) - 1))) / 40 * 40).toNatClampNeg)) kx_now_cables 2 (I kx_now_acts_sounds (((I kx_now_acts 4) + (ab_max32 0 ((I kx_now_acts 5) - 1))) - ((I kx_now_acts 4) + (ab_max32 0 ((I kx_now_acts 5) - 1))) / 40 * 40).toNatClampNeg)), L, ab_RR, n, nc, ns) (.inl none, (I5, L, ab_RR, n, nc, ns)) ∧ res = (.inl (some (.int (I5 kx_now_acts_swaps (((I kx_now_acts 4) + (ab_max32 0 ((I kx_now_acts 5) - 1))) - ((I kx_now_acts 4) + (ab_max32 0 ((I kx_now_acts 5) - 1))) / 40 * 40).toNatClampNeg))), (I5, L, ab_RR, n, nc, ns))) : ab_E w (d + 1) mt_Acts_takeBack 0 [.ref kx_now_acts, .ref kx_now_cables, .null] [] (I, L, ab_RR, n, nc, ns) res := by
  refine ab_aload_n (i := 0) d_Acts_takeBack_0 rfl rfl ?_
  refine ab_iconst (v := 0) d_Acts_takeBack_1 rfl ?_
  refine ab_aload_n (i := 0) d_Acts_takeBack_2 rfl rfl ?_
  refine ab_getI (ci := 0) (k := 5) d_Acts_takeBack_3 v_278 rfl (by decide) (by decide) rfl ?_
  refine ab_iconst (v := 1) d_Acts_takeBack_6 rfl ?_
  refine ab_isub d_Acts_takeBack_7 ?_
  refine ab_max d_Acts_takeBack_8 v_649 v_451 v_150 v_452 (Nat.succ_le_succ (Nat.zero_le _)) (Nat.le_of_ble_eq_true rfl) hc hs ?_
  refine ab_putI (ci := 0) (k := 5) d_Acts_takeBack_11 v_278 rfl (by decide) (by decide) rfl (Or.inl rfl) rfl rfl ?_
  refine ab_aload_n (i := 0) d_Acts_takeBack_14 rfl rfl ?_
  refine ab_getI (ci := 0) (k := 4) d_Acts_takeBack_15 v_277 rfl (by decide) (by decide) rfl ?_
  refine ab_aload_n (i := 0) d_Acts_takeBack_18 rfl rfl ?_
  refine ab_getI (ci := 0) (k := 5) d_Acts_takeBack_19 v_278 rfl (by decide) (by decide) rfl ?_
  refine ab_iadd d_Acts_takeBack_22 ?_
  refine ab_bipush (v := 40) d_Acts_takeBack_23 rfl ?_
  refine ab_irem d_Acts_takeBack_25 (by decide) ?_
  refine ab_istore_n (i := 2) d_Acts_takeBack_26 rfl (by decide) (Or.inr rfl) ?_
  refine ab_aload_n (i := 0) d_Acts_takeBack_27 rfl rfl ?_
  refine ab_getR (ci := 0) (k := 0) (j := kx_now_acts_prices) d_Acts_takeBack_28 v_273 rfl (by decide) (by decide) rfl r_kx_now_acts_0 ?_
  refine ab_iload_n (i := 2) d_Acts_takeBack_31 rfl rfl ?_
  refine ab_bipush (v := 24) d_Acts_takeBack_32 rfl ?_
  refine ab_imul d_Acts_takeBack_34 ?_
  refine ab_aload_n (i := 1) d_Acts_takeBack_35 rfl rfl ?_
  refine ab_getR (ci := 1) (k := 5) (j := kx_now_cables_price) d_Acts_takeBack_36 v_222 rfl (by decide) (by decide) rfl r_kx_now_cables_5 ?_
  refine ab_iconst (v := 0) d_Acts_takeBack_39 rfl ?_
  refine ab_bipush (v := 24) d_Acts_takeBack_40 rfl ?_
  have g1 := h.1; have h := h.2
  have g2 := h.1; have h := h.2
  refine ab_copy d_Acts_takeBack_42 v_586 v_562 v_561 v_161 rfl rfl rfl rfl g1 (by decide) (by decide) g2 (by decide) (Nat.succ_le_succ (Nat.zero_le _)) (Nat.le_of_ble_eq_true rfl) ?_
  refine ab_aload_n (i := 1) d_Acts_takeBack_45 rfl rfl ?_
  refine ab_aload_n (i := 0) d_Acts_takeBack_46 rfl rfl ?_
  refine ab_getR (ci := 0) (k := 1) (j := kx_now_acts_counts) d_Acts_takeBack_47 v_274 rfl (by decide) (by decide) rfl r_kx_now_acts_1 ?_
  refine ab_iload_n (i := 2) d_Acts_takeBack_50 rfl rfl ?_
  have g3 := h.1; have h := h.2
  refine ab_iald d_Acts_takeBack_51 rfl rfl g3 ?_
  refine ab_putI (ci := 1) (k := 1) d_Acts_takeBack_52 v_197 rfl (by decide) (by decide) rfl (Or.inl rfl) rfl rfl ?_
  refine ab_aload_n (i := 1) d_Acts_takeBack_55 rfl rfl ?_
  refine ab_aload_n (i := 0) d_Acts_takeBack_56 rfl rfl ?_
  refine ab_getR (ci := 0) (k := 2) (j := kx_now_acts_sounds) d_Acts_takeBack_57 v_275 rfl (by decide) (by decide) rfl r_kx_now_acts_2 ?_
  refine ab_iload_n (i := 2) d_Acts_takeBack_60 rfl rfl ?_
  refine ab_iald d_Acts_takeBack_61 rfl rfl g3 ?_
  refine ab_putI (ci := 1) (k := 2) d_Acts_takeBack_62 v_201 rfl (by decide) (by decide) rfl (Or.inl rfl) rfl rfl ?_
  refine ab_aload_n (i := 1) d_Acts_takeBack_65 rfl rfl ?_
  obtain ⟨I5, hC, h⟩ := h
  refine ab_callV (me2 := mt_Cables_sort) (b := kx_now_cables) (as := []) (st := []) (rv := none) (M2 := (I5, L, ab_RR, n, nc, ns)) d_Acts_takeBack_66 ce_Cables_sort v_650 v_592 v_593 (by decide) rfl (Nat.le_of_ble_eq_true rfl) hC (Nat.le_refl _) (Nat.le_refl _) hc hs (fun j h9 => by cases h9) (fun _ _ => rfl) ?_
  show ab_E w (d + 1) mt_Acts_takeBack 69 [.ref kx_now_acts, .ref kx_now_cables, .int (((I kx_now_acts 4) + (ab_max32 0 ((I kx_now_acts 5) - 1))) - ((I kx_now_acts 4) + (ab_max32 0 ((I kx_now_acts 5) - 1))) / 40 * 40)] [] (I5, L, ab_RR, n, nc, ns) res
  refine ab_aload_n (i := 0) d_Acts_takeBack_69 rfl rfl ?_
  refine ab_getR (ci := 0) (k := 3) (j := kx_now_acts_swaps) d_Acts_takeBack_70 v_276 rfl (by decide) (by decide) rfl r_kx_now_acts_3 ?_
  refine ab_iload_n (i := 2) d_Acts_takeBack_73 rfl rfl ?_
  refine ab_iald d_Acts_takeBack_74 rfl rfl g3 ?_
  exact ab_iret (ty := .int) d_Acts_takeBack_75 rfl rfl h
theorem r_Cables_copy_0_0 {w : ab_Wd} {d n nc ns : Nat} {I : Nat → Nat → Int32} {L : Nat → Nat → Int64} {res : ab_Re} (hT : w.1.stackTraces = false)  (hc : nc ≤ res.2.2.2.2.2.1) (hs : ns ≤ res.2.2.2.2.2.2)
    (h : res = (.inl none, ((ab_row (ab_row (ab_row (ab_row (ab_row (ab_up (ab_up (ab_up I kx_trial 0 (I kx_now_cables 0)) kx_trial 1 (I kx_now_cables 1)) kx_trial 2 (I kx_now_cables 2)) kx_trial_first (va_cpy (I kx_now_cables_first) (I kx_trial_first) 0 0 24)) kx_trial_second (va_cpy (I kx_now_cables_second) (I kx_trial_second) 0 0 24)) kx_trial_price (va_cpy (I kx_now_cables_price) (I kx_trial_price) 0 0 24)) kx_trial_firm (va_cpy (I kx_now_cables_firm) (I kx_trial_firm) 0 0 24)) kx_trial_order (va_cpy (I kx_now_cables_order) (I kx_trial_order) 0 0 24)), L, ab_RR, n, nc, ns))) : ab_E w (d + 1) mt_Cables_copy 0 [.ref kx_trial, .ref kx_now_cables] [] (I, L, ab_RR, n, nc, ns) res := by
  refine ab_aload_n (i := 0) d_Cables_copy_0 rfl rfl ?_
  refine ab_aload_n (i := 1) d_Cables_copy_1 rfl rfl ?_
  refine ab_getI (ci := 1) (k := 0) d_Cables_copy_2 v_185 rfl (by decide) (by decide) rfl ?_
  refine ab_putI (ci := 1) (k := 0) d_Cables_copy_5 v_185 rfl (by decide) (by decide) rfl (Or.inl rfl) rfl rfl ?_
  refine ab_aload_n (i := 0) d_Cables_copy_8 rfl rfl ?_
  refine ab_aload_n (i := 1) d_Cables_copy_9 rfl rfl ?_
  refine ab_getI (ci := 1) (k := 1) d_Cables_copy_10 v_192 rfl (by decide) (by decide) rfl ?_
  refine ab_putI (ci := 1) (k := 1) d_Cables_copy_13 v_192 rfl (by decide) (by decide) rfl (Or.inl rfl) rfl rfl ?_
  refine ab_aload_n (i := 0) d_Cables_copy_16 rfl rfl ?_
  refine ab_aload_n (i := 1) d_Cables_copy_17 rfl rfl ?_
  refine ab_getI (ci := 1) (k := 2) d_Cables_copy_18 v_200 rfl (by decide) (by decide) rfl ?_
  refine ab_putI (ci := 1) (k := 2) d_Cables_copy_21 v_200 rfl (by decide) (by decide) rfl (Or.inl rfl) rfl rfl ?_
  refine ab_aload_n (i := 1) d_Cables_copy_24 rfl rfl ?_
  refine ab_getR (ci := 1) (k := 3) (j := kx_now_cables_first) d_Cables_copy_25 v_204 rfl (by decide) (by decide) rfl r_kx_now_cables_3 ?_
  refine ab_iconst (v := 0) d_Cables_copy_28 rfl ?_
  refine ab_aload_n (i := 0) d_Cables_copy_29 rfl rfl ?_
  refine ab_getR (ci := 1) (k := 3) (j := kx_trial_first) d_Cables_copy_30 v_204 rfl (by decide) (by decide) rfl r_kx_trial_3 ?_
  refine ab_iconst (v := 0) d_Cables_copy_33 rfl ?_
  refine ab_bipush (v := 24) d_Cables_copy_34 rfl ?_
  refine ab_copy d_Cables_copy_36 v_675 v_562 v_561 v_161 rfl rfl rfl rfl (by decide) (by decide) (by decide) (by decide) (by decide) (Nat.succ_le_succ (Nat.zero_le _)) (Nat.le_of_ble_eq_true rfl) ?_
  refine ab_aload_n (i := 1) d_Cables_copy_39 rfl rfl ?_
  refine ab_getR (ci := 1) (k := 4) (j := kx_now_cables_second) d_Cables_copy_40 v_211 rfl (by decide) (by decide) rfl r_kx_now_cables_4 ?_
  refine ab_iconst (v := 0) d_Cables_copy_43 rfl ?_
  refine ab_aload_n (i := 0) d_Cables_copy_44 rfl rfl ?_
  refine ab_getR (ci := 1) (k := 4) (j := kx_trial_second) d_Cables_copy_45 v_211 rfl (by decide) (by decide) rfl r_kx_trial_4 ?_
  refine ab_iconst (v := 0) d_Cables_copy_48 rfl ?_
  refine ab_bipush (v := 24) d_Cables_copy_49 rfl ?_
  refine ab_copy d_Cables_copy_51 v_675 v_562 v_561 v_161 rfl rfl rfl rfl (by decide) (by decide) (by decide) (by decide) (by decide) (Nat.succ_le_succ (Nat.zero_le _)) (Nat.le_of_ble_eq_true rfl) ?_
  refine ab_aload_n (i := 1) d_Cables_copy_54 rfl rfl ?_
  refine ab_getR (ci := 1) (k := 5) (j := kx_now_cables_price) d_Cables_copy_55 v_218 rfl (by decide) (by decide) rfl r_kx_now_cables_5 ?_
  refine ab_iconst (v := 0) d_Cables_copy_58 rfl ?_
  refine ab_aload_n (i := 0) d_Cables_copy_59 rfl rfl ?_
  refine ab_getR (ci := 1) (k := 5) (j := kx_trial_price) d_Cables_copy_60 v_218 rfl (by decide) (by decide) rfl r_kx_trial_5 ?_
  refine ab_iconst (v := 0) d_Cables_copy_63 rfl ?_
  refine ab_bipush (v := 24) d_Cables_copy_64 rfl ?_
  refine ab_copy d_Cables_copy_66 v_675 v_562 v_561 v_161 rfl rfl rfl rfl (by decide) (by decide) (by decide) (by decide) (by decide) (Nat.succ_le_succ (Nat.zero_le _)) (Nat.le_of_ble_eq_true rfl) ?_
  refine ab_aload_n (i := 1) d_Cables_copy_69 rfl rfl ?_
  refine ab_getR (ci := 1) (k := 6) (j := kx_now_cables_firm) d_Cables_copy_70 v_226 rfl (by decide) (by decide) rfl r_kx_now_cables_6 ?_
  refine ab_iconst (v := 0) d_Cables_copy_73 rfl ?_
  refine ab_aload_n (i := 0) d_Cables_copy_74 rfl rfl ?_
  refine ab_getR (ci := 1) (k := 6) (j := kx_trial_firm) d_Cables_copy_75 v_226 rfl (by decide) (by decide) rfl r_kx_trial_6 ?_
  refine ab_iconst (v := 0) d_Cables_copy_78 rfl ?_
  refine ab_bipush (v := 24) d_Cables_copy_79 rfl ?_
  refine ab_copy d_Cables_copy_81 v_675 v_562 v_561 v_161 rfl rfl rfl rfl (by decide) (by decide) (by decide) (by decide) (by decide) (Nat.succ_le_succ (Nat.zero_le _)) (Nat.le_of_ble_eq_true rfl) ?_
  refine ab_aload_n (i := 1) d_Cables_copy_84 rfl rfl ?_
  refine ab_getR (ci := 1) (k := 7) (j := kx_now_cables_order) d_Cables_copy_85 v_229 rfl (by decide) (by decide) rfl r_kx_now_cables_7 ?_
  refine ab_iconst (v := 0) d_Cables_copy_88 rfl ?_
  refine ab_aload_n (i := 0) d_Cables_copy_89 rfl rfl ?_
  refine ab_getR (ci := 1) (k := 7) (j := kx_trial_order) d_Cables_copy_90 v_229 rfl (by decide) (by decide) rfl r_kx_trial_7 ?_
  refine ab_iconst (v := 0) d_Cables_copy_93 rfl ?_
  refine ab_bipush (v := 24) d_Cables_copy_94 rfl ?_
  refine ab_copy d_Cables_copy_96 v_675 v_562 v_561 v_161 rfl rfl rfl rfl (by decide) (by decide) (by decide) (by decide) (by decide) (Nat.succ_le_succ (Nat.zero_le _)) (Nat.le_of_ble_eq_true rfl) ?_
  exact ab_vret d_Cables_copy_99 rfl h
