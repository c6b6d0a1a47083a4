-- CableKeeper$Forest.grow(LCableKeeper$Cables;I)V over kx_forest, kx_now_cables
theorem q_Forest_grow_2_0 {w : ab_Wd} {d n nc ns : Nat} {I : Nat → Nat → Int32} {L : Nat → Nat → Int64} {res : ab_Re} (v2 : Int32) (hc : nc ≤ res.2.2.2.2.2.1) (hs : ns ≤ res.2.2.2.2.2.2)
    (h : ab_E w (d + 1) mt_Forest_grow 25 [.ref kx_forest, .ref kx_now_cables, .int v2, .int 0, .null] [] ((ab_up (ab_up (ab_up (ab_up I kx_forest 1 0) kx_forest 2 0) kx_forest 3 0) kx_forest 4 ((ab_up (ab_up (ab_up I kx_forest 1 0) kx_forest 2 0) kx_forest 3 0) kx_now_cables 0)), L, ab_RR, n, nc, ns) res) : ab_E w (d + 1) mt_Forest_grow 0 [.ref kx_forest, .ref kx_now_cables, .int v2, .null, .null] [] (I, L, ab_RR, n, nc, ns) res := by
  refine ab_aload_n (i := 0) d_Forest_grow_0 rfl rfl ?_
  refine ab_iconst (v := 0) d_Forest_grow_1 rfl ?_
  refine ab_putI (ci := 2) (k := 1) d_Forest_grow_2 v_331 rfl (by decide) (by decide) rfl (Or.inl rfl) rfl rfl ?_
  refine ab_aload_n (i := 0) d_Forest_grow_5 rfl rfl ?_
  refine ab_iconst (v := 0) d_Forest_grow_6 rfl ?_
  refine ab_putI (ci := 2) (k := 2) d_Forest_grow_7 v_334 rfl (by decide) (by decide) rfl (Or.inl rfl) rfl rfl ?_
  refine ab_aload_n (i := 0) d_Forest_grow_10 rfl rfl ?_
  refine ab_iconst (v := 0) d_Forest_grow_11 rfl ?_
  refine ab_putI (ci := 2) (k := 3) d_Forest_grow_12 v_336 rfl (by decide) (by decide) rfl (Or.inl rfl) rfl rfl ?_
  refine ab_aload_n (i := 0) d_Forest_grow_15 rfl rfl ?_
  refine ab_aload_n (i := 1) d_Forest_grow_16 rfl rfl ?_
  refine ab_getI (ci := 1) (k := 0) d_Forest_grow_17 v_187 rfl (by decide) (by decide) rfl ?_
  refine ab_putI (ci := 2) (k := 4) d_Forest_grow_20 v_338 rfl (by decide) (by decide) rfl (Or.inl rfl) rfl rfl ?_
  refine ab_iconst (v := 0) d_Forest_grow_23 rfl ?_
  refine ab_istore_n (i := 3) d_Forest_grow_24 rfl (by decide) (Or.inr rfl) ?_
  exact h
theorem q_Forest_grow_2_25 {w : ab_Wd} {d n nc ns : Nat} {I : Nat → Nat → Int32} {L : Nat → Nat → Int64} {res : ab_Re} (v2 : Int32) (v3 : Int32) (hc : nc ≤ res.2.2.2.2.2.1) (hs : ns ≤ res.2.2.2.2.2.2)
    (h : ((10 ≤ v3 → (ab_E w (d + 1) mt_Forest_grow 46 [.ref kx_forest, .ref kx_now_cables, .int v2, .int 0, .null] [] (I, L, ab_RR, n, nc, ns) res)) ∧ (¬ 10 ≤ v3 → ((vp_in v3 10) ∧ ab_E w (d + 1) mt_Forest_grow 25 [.ref kx_forest, .ref kx_now_cables, .int v2, .int (v3 + 1), .null] [] ((ab_up I kx_forest_piece v3.toNatClampNeg v3), L, ab_RR, n, nc, ns) res)))) : ab_E w (d + 1) mt_Forest_grow 25 [.ref kx_forest, .ref kx_now_cables, .int v2, .int v3, .null] [] (I, L, ab_RR, n, nc, ns) res := by
  refine ab_iload_n (i := 3) d_Forest_grow_25 rfl rfl ?_
  refine ab_bipush (v := 10) d_Forest_grow_26 rfl ?_
  refine ab_icmp_ge (tgt := 44) d_Forest_grow_28 (by decide) (fun c1 => ?_) (fun c1 => ?_)
  · have h := h.1 c1
    refine ab_iconst (v := 0) d_Forest_grow_44 rfl ?_
    refine ab_istore_n (i := 3) d_Forest_grow_45 rfl (by decide) (Or.inr rfl) ?_
    exact h
  · have h := h.2 c1
    refine ab_aload_n (i := 0) d_Forest_grow_31 rfl rfl ?_
    refine ab_getR (ci := 2) (k := 5) (j := kx_forest_piece) d_Forest_grow_32 v_340 rfl (by decide) (by decide) rfl r_kx_forest_5 ?_
    refine ab_iload_n (i := 3) d_Forest_grow_35 rfl rfl ?_
    refine ab_iload_n (i := 3) d_Forest_grow_36 rfl rfl ?_
    have g2 := h.1; have h := h.2
    refine ab_iast d_Forest_grow_37 rfl rfl g2 ?_
    refine ab_iinc (i := 3) (v := (v3 + 1)) d_Forest_grow_38 rfl rfl (by decide) (Or.inr rfl) ?_
    refine ab_goto (tgt := 25) d_Forest_grow_41 (by decide) ?_
    exact h
theorem q_Forest_grow_2_46 {w : ab_Wd} {d n nc ns : Nat} {I : Nat → Nat → Int32} {L : Nat → Nat → Int64} {res : ab_Re} (v2 : Int32) (v3 : Int32) (hc : nc ≤ res.2.2.2.2.2.1) (hs : ns ≤ res.2.2.2.2.2.2)
    (h : (((I kx_now_cables 1) ≤ v3 → (ab_E w (d + 1) mt_Forest_grow 174 [.ref kx_forest, .ref kx_now_cables, .int v2, .int v3, .null] [] (I, L, ab_RR, n, nc, ns) res)) ∧ (¬ (I kx_now_cables 1) ≤ v3 → ((9 ≤ (I kx_forest 1) → (ab_E w (d + 1) mt_Forest_grow 174 [.ref kx_forest, .ref kx_now_cables, .int v2, .int v3, .null] [] (I, L, ab_RR, n, nc, ns) res)) ∧ (¬ 9 ≤ (I kx_forest 1) → ((vp_in v3 24) ∧ ((¬ ((v2 >>> ((I kx_now_cables_order v3.toNatClampNeg) &&& 31)) &&& 1) = 1 → (ab_E w (d + 1) mt_Forest_grow 168 [.ref kx_forest, .ref kx_now_cables, .int v2, .int v3, .int (I kx_now_cables_order v3.toNatClampNeg)] [] (I, L, ab_RR, n, nc, ns) res)) ∧ (((v2 >>> ((I kx_now_cables_order v3.toNatClampNeg) &&& 31)) &&& 1) = 1 → ((vp_in (I kx_now_cables_order v3.toNatClampNeg) 24) ∧ (vp_in (I kx_now_cables_order v3.toNatClampNeg) 24) ∧ ∃ (r7 : Int32) (I8 : Nat → Nat → Int32), ab_C w d mt_K_unite [.ref kx_forest_piece, .int (I kx_now_cables_first (I kx_now_cables_order v3.toNatClampNeg).toNatClampNeg), .int (I kx_now_cables_second (I kx_now_cables_order v3.toNatClampNeg).toNatClampNeg)] (I, L, ab_RR, n, nc, ns) (.inl (some (.int r7)), (I8, L, ab_RR, n, nc, ns)) ∧ ((r7 = 0 → (ab_E w (d + 1) mt_Forest_grow 168 [.ref kx_forest, .ref kx_now_cables, .int v2, .int v3, .int (I kx_now_cables_order v3.toNatClampNeg)] [] (I8, L, ab_RR, n, nc, ns) res)) ∧ (¬ r7 = 0 → ((vp_in (I8 kx_forest 1) 9) ∧ (vp_in (I kx_now_cables_order v3.toNatClampNeg) 24) ∧ ab_E w (d + 1) mt_Forest_grow 168 [.ref kx_forest, .ref kx_now_cables, .int v2, .int v3, .int (I kx_now_cables_order v3.toNatClampNeg)] [] ((ab_up (ab_up (ab_up (ab_up (ab_up I8 kx_forest_order (I8 kx_forest 1).toNatClampNeg (I kx_now_cables_order v3.toNatClampNeg)) kx_forest 1 (((ab_up I8 kx_forest_order (I8 kx_forest 1).toNatClampNeg (I kx_now_cables_order v3.toNatClampNeg)) kx_forest 1) + 1)) kx_forest 2 (((ab_up (ab_up I8 kx_forest_order (I8 kx_forest 1).toNatClampNeg (I kx_now_cables_order v3.toNatClampNeg)) kx_forest 1 (((ab_up I8 kx_forest_order (I8 kx_forest 1).toNatClampNeg (I kx_now_cables_order v3.toNatClampNeg)) kx_forest 1) + 1)) kx_forest 2) ||| ((1 : Int32) <<< ((I kx_now_cables_order v3.toNatClampNeg) &&& 31)))) kx_forest 3 (((ab_up (ab_up (ab_up I8 kx_forest_order (I8 kx_forest 1).toNatClampNeg (I kx_now_cables_order v3.toNatClampNeg)) kx_forest 1 (((ab_up I8 kx_forest_order (I8 kx_forest 1).toNatClampNeg (I kx_now_cables_order v3.toNatClampNeg)) kx_forest 1) + 1)) kx_forest 2 (((ab_up (ab_up I8 kx_forest_order (I8 kx_forest 1).toNatClampNeg (I kx_now_cables_order v3.toNatClampNeg)) kx_forest 1 (((ab_up I8 kx_forest_order (I8 kx_forest 1).toNatClampNeg (I kx_now_cables_order v3.toNatClampNeg)) kx_forest 1) + 1)) kx_forest 2) ||| ((1 : Int32) <<< ((I kx_now_cables_order v3.toNatClampNeg) &&& 31)))) kx_forest 3) + ((ab_up (ab_up (ab_up I8 kx_forest_order (I8 kx_forest 1).toNatClampNeg (I kx_now_cables_order v3.toNatClampNeg)) kx_forest 1 (((ab_up I8 kx_forest_order (I8 kx_forest 1).toNatClampNeg (I kx_now_cables_order v3.toNatClampNeg)) kx_forest 1) + 1)) kx_forest 2 (((ab_up (ab_up I8 kx_forest_order (I8 kx_forest 1).toNatClampNeg (I kx_now_cables_order v3.toNatClampNeg)) kx_forest 1 (((ab_up I8 kx_forest_order (I8 kx_forest 1).toNatClampNeg (I kx_now_cables_order v3.toNatClampNeg)) kx_forest 1) + 1)) kx_forest 2) ||| ((1 : Int32) <<< ((I kx_now_cables_order v3.toNatClampNeg) &&& 31)))) kx_now_cables_price (I kx_now_cables_order v3.toNatClampNeg).toNatClampNeg))) kx_forest 4 (((ab_up (ab_up (ab_up (ab_up I8 kx_forest_order (I8 kx_forest 1).toNatClampNeg (I kx_now_cables_order v3.toNatClampNeg)) kx_forest 1 (((ab_up I8 kx_forest_order (I8 kx_forest 1).toNatClampNeg (I kx_now_cables_order v3.toNatClampNeg)) kx_forest 1) + 1)) kx_forest 2 (((ab_up (ab_up I8 kx_forest_order (I8 kx_forest 1).toNatClampNeg (I kx_now_cables_order v3.toNatClampNeg)) kx_forest 1 (((ab_up I8 kx_forest_order (I8 kx_forest 1).toNatClampNeg (I kx_now_cables_order v3.toNatClampNeg)) kx_forest 1) + 1)) kx_forest 2) ||| ((1 : Int32) <<< ((I kx_now_cables_order v3.toNatClampNeg) &&& 31)))) kx_forest 3 (((ab_up (ab_up (ab_up I8 kx_forest_order (I8 kx_forest 1).toNatClampNeg (I kx_now_cables_order v3.toNatClampNeg)) kx_forest 1 (((ab_up I8 kx_forest_order (I8 kx_forest 1).toNatClampNeg (I kx_now_cables_order v3.toNatClampNeg)) kx_forest 1) + 1)) kx_forest 2 (((ab_up (ab_up I8 kx_forest_order (I8 kx_forest 1).toNatClampNeg (I kx_now_cables_order v3.toNatClampNeg)) kx_forest 1 (((ab_up I8 kx_forest_order (I8 kx_forest 1).toNatClampNeg (I kx_now_cables_order v3.toNatClampNeg)) kx_forest 1) + 1)) kx_forest 2) ||| ((1 : Int32) <<< ((I kx_now_cables_order v3.toNatClampNeg) &&& 31)))) kx_forest 3) + ((ab_up (ab_up (ab_up I8 kx_forest_order (I8 kx_forest 1).toNatClampNeg (I kx_now_cables_order v3.toNatClampNeg)) kx_forest 1 (((ab_up I8 kx_forest_order (I8 kx_forest 1).toNatClampNeg (I kx_now_cables_order v3.toNatClampNeg)) kx_forest 1) + 1)) kx_forest 2 (((ab_up (ab_up I8 kx_forest_order (I8 kx_forest 1).toNatClampNeg (I kx_now_cables_order v3.toNatClampNeg)) kx_forest 1 (((ab_up I8 kx_forest_order (I8 kx_forest 1).toNatClampNeg (I kx_now_cables_order v3.toNatClampNeg)) kx_forest 1) + 1)) kx_forest 2) ||| ((1 : Int32) <<< ((I kx_now_cables_order v3.toNatClampNeg) &&& 31)))) kx_now_cables_price (I kx_now_cables_order v3.toNatClampNeg).toNatClampNeg))) kx_forest 4) - 1)), L, ab_RR, n, nc, ns) res)))))))))))) : ab_E w (d + 1) mt_Forest_grow 46 [.ref kx_forest, .ref kx_now_cables, .int v2, .int v3, .null] [] (I, L, ab_RR, n, nc, ns) res := by
  refine ab_iload_n (i := 3) d_Forest_grow_46 rfl rfl ?_
  refine ab_aload_n (i := 1) d_Forest_grow_47 rfl rfl ?_
  refine ab_getI (ci := 1) (k := 1) d_Forest_grow_48 v_195 rfl (by decide) (by decide) rfl ?_
  refine ab_icmp_ge (tgt := 174) d_Forest_grow_51 (by decide) (fun c1 => ?_) (fun c1 => ?_)
  · have h := h.1 c1
    exact h
  · have h := h.2 c1
    refine ab_aload_n (i := 0) d_Forest_grow_54 rfl rfl ?_
    refine ab_getI (ci := 2) (k := 1) d_Forest_grow_55 v_331 rfl (by decide) (by decide) rfl ?_
    refine ab_aload_n (i := 0) d_Forest_grow_58 rfl rfl ?_
    refine ab_getR (ci := 2) (k := 0) (j := kx_forest_order) d_Forest_grow_59 v_328 rfl (by decide) (by decide) rfl r_kx_forest_0 ?_
    refine ab_alen (v := 9) d_Forest_grow_62 (by decide) (by decide) rfl ?_
    refine ab_icmp_ge (tgt := 174) d_Forest_grow_63 (by decide) (fun c2 => ?_) (fun c2 => ?_)
    · have h := h.1 c2
      exact h
    · have h := h.2 c2
      refine ab_aload_n (i := 1) d_Forest_grow_66 rfl rfl ?_
      refine ab_getR (ci := 1) (k := 7) (j := kx_now_cables_order) d_Forest_grow_67 v_231 rfl (by decide) (by decide) rfl r_kx_now_cables_7 ?_
      refine ab_iload_n (i := 3) d_Forest_grow_70 rfl rfl ?_
      have g3 := h.1; have h := h.2
      refine ab_iald d_Forest_grow_71 rfl rfl g3 ?_
      refine ab_istore (i := 4) d_Forest_grow_72 (by decide) (Or.inr rfl) ?_
      refine ab_iload_n (i := 2) d_Forest_grow_74 rfl rfl ?_
      refine ab_iload (i := 4) d_Forest_grow_75 rfl ?_
      refine ab_ishr d_Forest_grow_77 ?_
      refine ab_iconst (v := 1) d_Forest_grow_78 rfl ?_
      refine ab_iand d_Forest_grow_79 ?_
      refine ab_iconst (v := 1) d_Forest_grow_80 rfl ?_
      refine ab_icmp_ne (tgt := 168) d_Forest_grow_81 (by decide) (fun c4 => ?_) (fun c4 => ?_)
      · have h := h.1 c4
        exact h
      · have h := h.2 c4
        refine ab_aload_n (i := 0) d_Forest_grow_84 rfl rfl ?_
        refine ab_getR (ci := 2) (k := 5) (j := kx_forest_piece) d_Forest_grow_85 v_340 rfl (by decide) (by decide) rfl r_kx_forest_5 ?_
        refine ab_aload_n (i := 1) d_Forest_grow_88 rfl rfl ?_
        refine ab_getR (ci := 1) (k := 3) (j := kx_now_cables_first) d_Forest_grow_89 v_207 rfl (by decide) (by decide) rfl r_kx_now_cables_3 ?_
        refine ab_iload (i := 4) d_Forest_grow_92 rfl ?_
        have g5 := h.1; have h := h.2
        refine ab_iald d_Forest_grow_94 rfl rfl g5 ?_
        refine ab_aload_n (i := 1) d_Forest_grow_95 rfl rfl ?_
        refine ab_getR (ci := 1) (k := 4) (j := kx_now_cables_second) d_Forest_grow_96 v_214 rfl (by decide) (by decide) rfl r_kx_now_cables_4 ?_
        refine ab_iload (i := 4) d_Forest_grow_99 rfl ?_
        have g6 := h.1; have h := h.2
        refine ab_iald d_Forest_grow_101 rfl rfl g6 ?_
        obtain ⟨r7, I8, hC, h⟩ := h
        refine ab_callS (me2 := mt_K_unite) (as := [.ref kx_forest_piece, .int (I kx_now_cables_first (I kx_now_cables_order v3.toNatClampNeg).toNatClampNeg), .int (I kx_now_cables_second (I kx_now_cables_order v3.toNatClampNeg).toNatClampNeg)]) (st := []) (rv := (some (.int r7))) (M2 := (I8, L, ab_RR, n, nc, ns)) d_Forest_grow_102 ce_K_unite ⟨v_445, Or.inr ⟨_, u_444⟩⟩ (Nat.le_of_ble_eq_true rfl) hC (Nat.le_refl _) (Nat.le_refl _) hc hs (fun j h9 => by cases h9) (fun _ _ => rfl) ?_
        show ab_E w (d + 1) mt_Forest_grow 105 [.ref kx_forest, .ref kx_now_cables, .int v2, .int v3, .int (I kx_now_cables_order v3.toNatClampNeg)] [.int r7] (I8, L, ab_RR, n, nc, ns) res
        refine ab_if_eq (tgt := 168) d_Forest_grow_105 (by decide) (fun c9 => ?_) (fun c9 => ?_)
        · have h := h.1 c9
          exact h
        · have h := h.2 c9
          refine ab_aload_n (i := 0) d_Forest_grow_108 rfl rfl ?_
          refine ab_getR (ci := 2) (k := 0) (j := kx_forest_order) d_Forest_grow_109 v_328 rfl (by decide) (by decide) rfl r_kx_forest_0 ?_
          refine ab_aload_n (i := 0) d_Forest_grow_112 rfl rfl ?_
          refine ab_getI (ci := 2) (k := 1) d_Forest_grow_113 v_331 rfl (by decide) (by decide) rfl ?_
          refine ab_iload (i := 4) d_Forest_grow_116 rfl ?_
          have g10 := h.1; have h := h.2
          refine ab_iast d_Forest_grow_118 rfl rfl g10 ?_
          refine ab_aload_n (i := 0) d_Forest_grow_119 rfl rfl ?_
          refine ab_dupr d_Forest_grow_120 ?_
          refine ab_getI (ci := 2) (k := 1) d_Forest_grow_121 v_331 rfl (by decide) (by decide) rfl ?_
          refine ab_iconst (v := 1) d_Forest_grow_124 rfl ?_
          refine ab_iadd d_Forest_grow_125 ?_
          refine ab_putI (ci := 2) (k := 1) d_Forest_grow_126 v_331 rfl (by decide) (by decide) rfl (Or.inl rfl) rfl rfl ?_
          refine ab_aload_n (i := 0) d_Forest_grow_129 rfl rfl ?_
          refine ab_dupr d_Forest_grow_130 ?_
          refine ab_getI (ci := 2) (k := 2) d_Forest_grow_131 v_334 rfl (by decide) (by decide) rfl ?_
          refine ab_iconst (v := 1) d_Forest_grow_134 rfl ?_
          refine ab_iload (i := 4) d_Forest_grow_135 rfl ?_
          refine ab_ishl d_Forest_grow_137 ?_
          refine ab_ior d_Forest_grow_138 ?_
          refine ab_putI (ci := 2) (k := 2) d_Forest_grow_139 v_334 rfl (by decide) (by decide) rfl (Or.inl rfl) rfl rfl ?_
          refine ab_aload_n (i := 0) d_Forest_grow_142 rfl rfl ?_
          refine ab_dupr d_Forest_grow_143 ?_
          refine ab_getI (ci := 2) (k := 3) d_Forest_grow_144 v_336 rfl (by decide) (by decide) rfl ?_
          refine ab_aload_n (i := 1) d_Forest_grow_147 rfl rfl ?_
          refine ab_getR (ci := 1) (k := 5) (j := kx_now_cables_price) d_Forest_grow_148 v_221 rfl (by decide) (by decide) rfl r_kx_now_cables_5 ?_
          refine ab_iload (i := 4) d_Forest_grow_151 rfl ?_
          have g11 := h.1; have h := h.2
          refine ab_iald d_Forest_grow_153 rfl rfl g11 ?_
          refine ab_iadd d_Forest_grow_154 ?_
          refine ab_putI (ci := 2) (k := 3) d_Forest_grow_155 v_336 rfl (by decide) (by decide) rfl (Or.inl rfl) rfl rfl ?_
          refine ab_aload_n (i := 0) d_Forest_grow_158 rfl rfl ?_
          refine ab_dupr d_Forest_grow_159 ?_
          refine ab_getI (ci := 2) (k := 4) d_Forest_grow_160 v_338 rfl (by decide) (by decide) rfl ?_
          refine ab_iconst (v := 1) d_Forest_grow_163 rfl ?_
          refine ab_isub d_Forest_grow_164 ?_
          refine ab_putI (ci := 2) (k := 4) d_Forest_grow_165 v_338 rfl (by decide) (by decide) rfl (Or.inl rfl) rfl rfl ?_
          exact h
theorem q_Forest_grow_2_168 {w : ab_Wd} {d n nc ns : Nat} {I : Nat → Nat → Int32} {L : Nat → Nat → Int64} {res : ab_Re} (v2 : Int32) (v3 : Int32) (v4 : Int32) (hc : nc ≤ res.2.2.2.2.2.1) (hs : ns ≤ res.2.2.2.2.2.2)
    (h : ab_E w (d + 1) mt_Forest_grow 46 [.ref kx_forest, .ref kx_now_cables, .int v2, .int (v3 + 1), .null] [] (I, L, ab_RR, n, nc, ns) res) : ab_E w (d + 1) mt_Forest_grow 168 [.ref kx_forest, .ref kx_now_cables, .int v2, .int v3, .int v4] [] (I, L, ab_RR, n, nc, ns) res := by
  refine ab_iinc (i := 3) (v := (v3 + 1)) d_Forest_grow_168 rfl rfl (by decide) (Or.inr rfl) ?_
  refine ab_goto (tgt := 46) d_Forest_grow_171 (by decide) ?_
  refine ab_drop 4 ?_
  exact h
theorem q_Forest_grow_2_174 {w : ab_Wd} {d n nc ns : Nat} {I : Nat → Nat → Int32} {L : Nat → Nat → Int64} {res : ab_Re} (v2 : Int32) (v3 : Int32) (hc : nc ≤ res.2.2.2.2.2.1) (hs : ns ≤ res.2.2.2.2.2.2)
    (h : res = (.inl none, (I, L, ab_RR, n, nc, ns))) : ab_E w (d + 1) mt_Forest_grow 174 [.ref kx_forest, .ref kx_now_cables, .int v2, .int v3, .null] [] (I, L, ab_RR, n, nc, ns) res := by
  exact ab_vret d_Forest_grow_174 rfl h
