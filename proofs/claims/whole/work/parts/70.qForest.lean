theorem d_Forest_cheapest_0 : decode (ab_bc mt_Forest_cheapest) 0 = .ok (.iconst 0, 1) := by decide +kernel
theorem d_Forest_cheapest_1 : decode (ab_bc mt_Forest_cheapest) 1 = .ok (.istore_n 2, 1) := by decide +kernel
theorem d_Forest_cheapest_2 : decode (ab_bc mt_Forest_cheapest) 2 = .ok (.iconst 0, 1) := by decide +kernel
theorem d_Forest_cheapest_3 : decode (ab_bc mt_Forest_cheapest) 3 = .ok (.istore_n 3, 1) := by decide +kernel
theorem d_Forest_cheapest_4 : decode (ab_bc mt_Forest_cheapest) 4 = .ok (.iload_n 3, 1) := by decide +kernel
theorem d_Forest_cheapest_5 : decode (ab_bc mt_Forest_cheapest) 5 = .ok (.iload_n 1, 1) := by decide +kernel
theorem d_Forest_cheapest_6 : decode (ab_bc mt_Forest_cheapest) 6 = .ok (.if_icmp .ge 28, 3) := by decide +kernel
theorem d_Forest_cheapest_9 : decode (ab_bc mt_Forest_cheapest) 9 = .ok (.iload_n 3, 1) := by decide +kernel
theorem d_Forest_cheapest_10 : decode (ab_bc mt_Forest_cheapest) 10 = .ok (.aload_n 0, 1) := by decide +kernel
theorem d_Forest_cheapest_11 : decode (ab_bc mt_Forest_cheapest) 11 = .ok (.getfield 15, 3) := by decide +kernel
theorem d_Forest_cheapest_14 : decode (ab_bc mt_Forest_cheapest) 14 = .ok (.if_icmp .ge 20, 3) := by decide +kernel
theorem d_Forest_cheapest_17 : decode (ab_bc mt_Forest_cheapest) 17 = .ok (.iload_n 2, 1) := by decide +kernel
theorem d_Forest_cheapest_18 : decode (ab_bc mt_Forest_cheapest) 18 = .ok (.iconst 1, 1) := by decide +kernel
theorem d_Forest_cheapest_19 : decode (ab_bc mt_Forest_cheapest) 19 = .ok (.aload_n 0, 1) := by decide +kernel
theorem d_Forest_cheapest_20 : decode (ab_bc mt_Forest_cheapest) 20 = .ok (.getfield 9, 3) := by decide +kernel
theorem d_Forest_cheapest_23 : decode (ab_bc mt_Forest_cheapest) 23 = .ok (.iload_n 3, 1) := by decide +kernel
theorem d_Forest_cheapest_24 : decode (ab_bc mt_Forest_cheapest) 24 = .ok (.iaload, 1) := by decide +kernel
theorem d_Forest_cheapest_25 : decode (ab_bc mt_Forest_cheapest) 25 = .ok (.ishl, 1) := by decide +kernel
theorem d_Forest_cheapest_26 : decode (ab_bc mt_Forest_cheapest) 26 = .ok (.ior, 1) := by decide +kernel
theorem d_Forest_cheapest_27 : decode (ab_bc mt_Forest_cheapest) 27 = .ok (.istore_n 2, 1) := by decide +kernel
theorem d_Forest_cheapest_28 : decode (ab_bc mt_Forest_cheapest) 28 = .ok (.iinc 3 1, 3) := by decide +kernel
theorem d_Forest_cheapest_31 : decode (ab_bc mt_Forest_cheapest) 31 = .ok (.goto (-27), 3) := by decide +kernel
theorem d_Forest_cheapest_34 : decode (ab_bc mt_Forest_cheapest) 34 = .ok (.iload_n 2, 1) := by decide +kernel
theorem d_Forest_cheapest_35 : decode (ab_bc mt_Forest_cheapest) 35 = .ok (.ireturn, 1) := by decide +kernel
-- CableKeeper$Forest.cheapest(I)I over kx_forest
theorem q_Forest_cheapest_0 {w : ab_Wd} {d n nc ns : Nat} {I : Nat → Nat → Int32} {L : Nat → Nat → Int64} {res : ab_Re} (v1 : Int32) (hc : nc ≤ res.2.2.2.2.2.1) (hs : ns ≤ res.2.2.2.2.2.2)
    (h : ab_E w d mt_Forest_cheapest 4 [.ref kx_forest, .int v1, .int 0, .int 0] [] (I, L, ab_RR, n, nc, ns) res) : ab_E w d mt_Forest_cheapest 0 [.ref kx_forest, .int v1, .null, .null] [] (I, L, ab_RR, n, nc, ns) res := by
  refine ab_iconst (v := 0) d_Forest_cheapest_0 rfl ?_
  refine ab_istore_n (i := 2) d_Forest_cheapest_1 rfl (by decide) (Or.inr rfl) ?_
  refine ab_iconst (v := 0) d_Forest_cheapest_2 rfl ?_
  refine ab_istore_n (i := 3) d_Forest_cheapest_3 rfl (by decide) (Or.inr rfl) ?_
  exact h
theorem q_Forest_cheapest_4 {w : ab_Wd} {d n nc ns : Nat} {I : Nat → Nat → Int32} {L : Nat → Nat → Int64} {res : ab_Re} (v1 : Int32) (v2 : Int32) (v3 : Int32) (hc : nc ≤ res.2.2.2.2.2.1) (hs : ns ≤ res.2.2.2.2.2.2)
    (h : ((v1 ≤ v3 → (ab_E w d mt_Forest_cheapest 34 [.ref kx_forest, .int v1, .int v2, .int v3] [] (I, L, ab_RR, n, nc, ns) res)) ∧ (¬ v1 ≤ v3 → (((I kx_forest 1) ≤ v3 → (ab_E w d mt_Forest_cheapest 34 [.ref kx_forest, .int v1, .int v2, .int v3] [] (I, L, ab_RR, n, nc, ns) res)) ∧ (¬ (I kx_forest 1) ≤ v3 → ((vp_in v3 9) ∧ ab_E w d mt_Forest_cheapest 4 [.ref kx_forest, .int v1, .int (v2 ||| ((1 : Int32) <<< ((I kx_forest_order v3.toNatClampNeg) &&& 31))), .int (v3 + 1)] [] (I, L, ab_RR, n, nc, ns) res)))))) : ab_E w d mt_Forest_cheapest 4 [.ref kx_forest, .int v1, .int v2, .int v3] [] (I, L, ab_RR, n, nc, ns) res := by
  refine ab_iload_n (i := 3) d_Forest_cheapest_4 rfl rfl ?_
  refine ab_iload_n (i := 1) d_Forest_cheapest_5 rfl rfl ?_
  refine ab_icmp_ge (tgt := 34) d_Forest_cheapest_6 (by decide) (fun c1 => ?_) (fun c1 => ?_)
  · have h := h.1 c1
    exact h
  · have h := h.2 c1
    refine ab_iload_n (i := 3) d_Forest_cheapest_9 rfl rfl ?_
    refine ab_aload_n (i := 0) d_Forest_cheapest_10 rfl rfl ?_
    refine ab_getI (ci := 2) (k := 1) d_Forest_cheapest_11 v_331 rfl (by decide) (by decide) rfl ?_
    refine ab_icmp_ge (tgt := 34) d_Forest_cheapest_14 (by decide) (fun c2 => ?_) (fun c2 => ?_)
    · have h := h.1 c2
      exact h
    · have h := h.2 c2
      refine ab_iload_n (i := 2) d_Forest_cheapest_17 rfl rfl ?_
      refine ab_iconst (v := 1) d_Forest_cheapest_18 rfl ?_
      refine ab_aload_n (i := 0) d_Forest_cheapest_19 rfl rfl ?_
      refine ab_getR (ci := 2) (k := 0) (j := kx_forest_order) d_Forest_cheapest_20 v_328 rfl (by decide) (by decide) rfl r_kx_forest_0 ?_
      refine ab_iload_n (i := 3) d_Forest_cheapest_23 rfl rfl ?_
      have g3 := h.1; have h := h.2
      refine ab_iald d_Forest_cheapest_24 rfl rfl g3 ?_
      refine ab_ishl d_Forest_cheapest_25 ?_
      refine ab_ior d_Forest_cheapest_26 ?_
      refine ab_istore_n (i := 2) d_Forest_cheapest_27 rfl (by decide) (Or.inr rfl) ?_
      refine ab_iinc (i := 3) (v := (v3 + 1)) d_Forest_cheapest_28 rfl rfl (by decide) (Or.inr rfl) ?_
      refine ab_goto (tgt := 4) d_Forest_cheapest_31 (by decide) ?_
      exact h
theorem q_Forest_cheapest_34 {w : ab_Wd} {d n nc ns : Nat} {I : Nat → Nat → Int32} {L : Nat → Nat → Int64} {res : ab_Re} (v1 : Int32) (v2 : Int32) (v3 : Int32) (hc : nc ≤ res.2.2.2.2.2.1) (hs : ns ≤ res.2.2.2.2.2.2)
    (h : res = (.inl (some (.int v2)), (I, L, ab_RR, n, nc, ns))) : ab_E w d mt_Forest_cheapest 34 [.ref kx_forest, .int v1, .int v2, .int v3] [] (I, L, ab_RR, n, nc, ns) res := by
  refine ab_iload_n (i := 2) d_Forest_cheapest_34 rfl rfl ?_
  exact ab_iret (ty := .int) d_Forest_cheapest_35 rfl rfl h
theorem d_Forest_grow_0 : decode (ab_bc mt_Forest_grow) 0 = .ok (.aload_n 0, 1) := by decide +kernel
theorem d_Forest_grow_1 : decode (ab_bc mt_Forest_grow) 1 = .ok (.iconst 0, 1) := by decide +kernel
theorem d_Forest_grow_2 : decode (ab_bc mt_Forest_grow) 2 = .ok (.putfield 15, 3) := by decide +kernel
theorem d_Forest_grow_5 : decode (ab_bc mt_Forest_grow) 5 = .ok (.aload_n 0, 1) := by decide +kernel
theorem d_Forest_grow_6 : decode (ab_bc mt_Forest_grow) 6 = .ok (.iconst 0, 1) := by decide +kernel
theorem d_Forest_grow_7 : decode (ab_bc mt_Forest_grow) 7 = .ok (.putfield 19, 3) := by decide +kernel
theorem d_Forest_grow_10 : decode (ab_bc mt_Forest_grow) 10 = .ok (.aload_n 0, 1) := by decide +kernel
theorem d_Forest_grow_11 : decode (ab_bc mt_Forest_grow) 11 = .ok (.iconst 0, 1) := by decide +kernel
theorem d_Forest_grow_12 : decode (ab_bc mt_Forest_grow) 12 = .ok (.putfield 22, 3) := by decide +kernel
theorem d_Forest_grow_15 : decode (ab_bc mt_Forest_grow) 15 = .ok (.aload_n 0, 1) := by decide +kernel
theorem d_Forest_grow_16 : decode (ab_bc mt_Forest_grow) 16 = .ok (.aload_n 1, 1) := by decide +kernel
theorem d_Forest_grow_17 : decode (ab_bc mt_Forest_grow) 17 = .ok (.getfield 31, 3) := by decide +kernel
theorem d_Forest_grow_20 : decode (ab_bc mt_Forest_grow) 20 = .ok (.putfield 25, 3) := by decide +kernel
theorem d_Forest_grow_23 : decode (ab_bc mt_Forest_grow) 23 = .ok (.iconst 0, 1) := by decide +kernel
theorem d_Forest_grow_24 : decode (ab_bc mt_Forest_grow) 24 = .ok (.istore_n 3, 1) := by decide +kernel
theorem d_Forest_grow_25 : decode (ab_bc mt_Forest_grow) 25 = .ok (.iload_n 3, 1) := by decide +kernel
theorem d_Forest_grow_26 : decode (ab_bc mt_Forest_grow) 26 = .ok (.bipush 10, 2) := by decide +kernel
theorem d_Forest_grow_28 : decode (ab_bc mt_Forest_grow) 28 = .ok (.if_icmp .ge 16, 3) := by decide +kernel
theorem d_Forest_grow_31 : decode (ab_bc mt_Forest_grow) 31 = .ok (.aload_n 0, 1) := by decide +kernel
theorem d_Forest_grow_32 : decode (ab_bc mt_Forest_grow) 32 = .ok (.getfield 28, 3) := by decide +kernel
theorem d_Forest_grow_35 : decode (ab_bc mt_Forest_grow) 35 = .ok (.iload_n 3, 1) := by decide +kernel
theorem d_Forest_grow_36 : decode (ab_bc mt_Forest_grow) 36 = .ok (.iload_n 3, 1) := by decide +kernel
theorem d_Forest_grow_37 : decode (ab_bc mt_Forest_grow) 37 = .ok (.iastore, 1) := by decide +kernel
theorem d_Forest_grow_38 : decode (ab_bc mt_Forest_grow) 38 = .ok (.iinc 3 1, 3) := by decide +kernel
theorem d_Forest_grow_41 : decode (ab_bc mt_Forest_grow) 41 = .ok (.goto (-16), 3) := by decide +kernel
theorem d_Forest_grow_44 : decode (ab_bc mt_Forest_grow) 44 = .ok (.iconst 0, 1) := by decide +kernel
theorem d_Forest_grow_45 : decode (ab_bc mt_Forest_grow) 45 = .ok (.istore_n 3, 1) := by decide +kernel
theorem d_Forest_grow_46 : decode (ab_bc mt_Forest_grow) 46 = .ok (.iload_n 3, 1) := by decide +kernel
theorem d_Forest_grow_47 : decode (ab_bc mt_Forest_grow) 47 = .ok (.aload_n 1, 1) := by decide +kernel
theorem d_Forest_grow_48 : decode (ab_bc mt_Forest_grow) 48 = .ok (.getfield 36, 3) := by decide +kernel
theorem d_Forest_grow_51 : decode (ab_bc mt_Forest_grow) 51 = .ok (.if_icmp .ge 123, 3) := by decide +kernel
theorem d_Forest_grow_54 : decode (ab_bc mt_Forest_grow) 54 = .ok (.aload_n 0, 1) := by decide +kernel
theorem d_Forest_grow_55 : decode (ab_bc mt_Forest_grow) 55 = .ok (.getfield 15, 3) := by decide +kernel
theorem d_Forest_grow_58 : decode (ab_bc mt_Forest_grow) 58 = .ok (.aload_n 0, 1) := by decide +kernel
theorem d_Forest_grow_59 : decode (ab_bc mt_Forest_grow) 59 = .ok (.getfield 9, 3) := by decide +kernel
theorem d_Forest_grow_62 : decode (ab_bc mt_Forest_grow) 62 = .ok (.arraylength, 1) := by decide +kernel
theorem d_Forest_grow_63 : decode (ab_bc mt_Forest_grow) 63 = .ok (.if_icmp .ge 111, 3) := by decide +kernel
theorem d_Forest_grow_66 : decode (ab_bc mt_Forest_grow) 66 = .ok (.aload_n 1, 1) := by decide +kernel
theorem d_Forest_grow_67 : decode (ab_bc mt_Forest_grow) 67 = .ok (.getfield 39, 3) := by decide +kernel
theorem d_Forest_grow_70 : decode (ab_bc mt_Forest_grow) 70 = .ok (.iload_n 3, 1) := by decide +kernel
theorem d_Forest_grow_71 : decode (ab_bc mt_Forest_grow) 71 = .ok (.iaload, 1) := by decide +kernel
theorem d_Forest_grow_72 : decode (ab_bc mt_Forest_grow) 72 = .ok (.istore 4, 2) := by decide +kernel
theorem d_Forest_grow_74 : decode (ab_bc mt_Forest_grow) 74 = .ok (.iload_n 2, 1) := by decide +kernel
theorem d_Forest_grow_75 : decode (ab_bc mt_Forest_grow) 75 = .ok (.iload 4, 2) := by decide +kernel
theorem d_Forest_grow_77 : decode (ab_bc mt_Forest_grow) 77 = .ok (.ishr, 1) := by decide +kernel
theorem d_Forest_grow_78 : decode (ab_bc mt_Forest_grow) 78 = .ok (.iconst 1, 1) := by decide +kernel
theorem d_Forest_grow_79 : decode (ab_bc mt_Forest_grow) 79 = .ok (.iand, 1) := by decide +kernel
theorem d_Forest_grow_80 : decode (ab_bc mt_Forest_grow) 80 = .ok (.iconst 1, 1) := by decide +kernel
theorem d_Forest_grow_81 : decode (ab_bc mt_Forest_grow) 81 = .ok (.if_icmp .ne 87, 3) := by decide +kernel
theorem d_Forest_grow_84 : decode (ab_bc mt_Forest_grow) 84 = .ok (.aload_n 0, 1) := by decide +kernel
theorem d_Forest_grow_85 : decode (ab_bc mt_Forest_grow) 85 = .ok (.getfield 28, 3) := by decide +kernel
theorem d_Forest_grow_88 : decode (ab_bc mt_Forest_grow) 88 = .ok (.aload_n 1, 1) := by decide +kernel
theorem d_Forest_grow_89 : decode (ab_bc mt_Forest_grow) 89 = .ok (.getfield 40, 3) := by decide +kernel
theorem d_Forest_grow_92 : decode (ab_bc mt_Forest_grow) 92 = .ok (.iload 4, 2) := by decide +kernel
theorem d_Forest_grow_94 : decode (ab_bc mt_Forest_grow) 94 = .ok (.iaload, 1) := by decide +kernel
theorem d_Forest_grow_95 : decode (ab_bc mt_Forest_grow) 95 = .ok (.aload_n 1, 1) := by decide +kernel
theorem d_Forest_grow_96 : decode (ab_bc mt_Forest_grow) 96 = .ok (.getfield 43, 3) := by decide +kernel
theorem d_Forest_grow_99 : decode (ab_bc mt_Forest_grow) 99 = .ok (.iload 4, 2) := by decide +kernel
theorem d_Forest_grow_101 : decode (ab_bc mt_Forest_grow) 101 = .ok (.iaload, 1) := by decide +kernel
theorem d_Forest_grow_102 : decode (ab_bc mt_Forest_grow) 102 = .ok (.invokestatic 46, 3) := by decide +kernel
theorem d_Forest_grow_105 : decode (ab_bc mt_Forest_grow) 105 = .ok (.ifCond .eq 63, 3) := by decide +kernel
theorem d_Forest_grow_108 : decode (ab_bc mt_Forest_grow) 108 = .ok (.aload_n 0, 1) := by decide +kernel
theorem d_Forest_grow_109 : decode (ab_bc mt_Forest_grow) 109 = .ok (.getfield 9, 3) := by decide +kernel
theorem d_Forest_grow_112 : decode (ab_bc mt_Forest_grow) 112 = .ok (.aload_n 0, 1) := by decide +kernel
theorem d_Forest_grow_113 : decode (ab_bc mt_Forest_grow) 113 = .ok (.getfield 15, 3) := by decide +kernel
theorem d_Forest_grow_116 : decode (ab_bc mt_Forest_grow) 116 = .ok (.iload 4, 2) := by decide +kernel
theorem d_Forest_grow_118 : decode (ab_bc mt_Forest_grow) 118 = .ok (.iastore, 1) := by decide +kernel
theorem d_Forest_grow_119 : decode (ab_bc mt_Forest_grow) 119 = .ok (.aload_n 0, 1) := by decide +kernel
theorem d_Forest_grow_120 : decode (ab_bc mt_Forest_grow) 120 = .ok (.dup, 1) := by decide +kernel
theorem d_Forest_grow_121 : decode (ab_bc mt_Forest_grow) 121 = .ok (.getfield 15, 3) := by decide +kernel
theorem d_Forest_grow_124 : decode (ab_bc mt_Forest_grow) 124 = .ok (.iconst 1, 1) := by decide +kernel
theorem d_Forest_grow_125 : decode (ab_bc mt_Forest_grow) 125 = .ok (.iadd, 1) := by decide +kernel
theorem d_Forest_grow_126 : decode (ab_bc mt_Forest_grow) 126 = .ok (.putfield 15, 3) := by decide +kernel
theorem d_Forest_grow_129 : decode (ab_bc mt_Forest_grow) 129 = .ok (.aload_n 0, 1) := by decide +kernel
theorem d_Forest_grow_130 : decode (ab_bc mt_Forest_grow) 130 = .ok (.dup, 1) := by decide +kernel
theorem d_Forest_grow_131 : decode (ab_bc mt_Forest_grow) 131 = .ok (.getfield 19, 3) := by decide +kernel
theorem d_Forest_grow_134 : decode (ab_bc mt_Forest_grow) 134 = .ok (.iconst 1, 1) := by decide +kernel
theorem d_Forest_grow_135 : decode (ab_bc mt_Forest_grow) 135 = .ok (.iload 4, 2) := by decide +kernel
theorem d_Forest_grow_137 : decode (ab_bc mt_Forest_grow) 137 = .ok (.ishl, 1) := by decide +kernel
theorem d_Forest_grow_138 : decode (ab_bc mt_Forest_grow) 138 = .ok (.ior, 1) := by decide +kernel
theorem d_Forest_grow_139 : decode (ab_bc mt_Forest_grow) 139 = .ok (.putfield 19, 3) := by decide +kernel
theorem d_Forest_grow_142 : decode (ab_bc mt_Forest_grow) 142 = .ok (.aload_n 0, 1) := by decide +kernel
theorem d_Forest_grow_143 : decode (ab_bc mt_Forest_grow) 143 = .ok (.dup, 1) := by decide +kernel
theorem d_Forest_grow_144 : decode (ab_bc mt_Forest_grow) 144 = .ok (.getfield 22, 3) := by decide +kernel
theorem d_Forest_grow_147 : decode (ab_bc mt_Forest_grow) 147 = .ok (.aload_n 1, 1) := by decide +kernel
theorem d_Forest_grow_148 : decode (ab_bc mt_Forest_grow) 148 = .ok (.getfield 50, 3) := by decide +kernel
theorem d_Forest_grow_151 : decode (ab_bc mt_Forest_grow) 151 = .ok (.iload 4, 2) := by decide +kernel
theorem d_Forest_grow_153 : decode (ab_bc mt_Forest_grow) 153 = .ok (.iaload, 1) := by decide +kernel
theorem d_Forest_grow_154 : decode (ab_bc mt_Forest_grow) 154 = .ok (.iadd, 1) := by decide +kernel
theorem d_Forest_grow_155 : decode (ab_bc mt_Forest_grow) 155 = .ok (.putfield 22, 3) := by decide +kernel
theorem d_Forest_grow_158 : decode (ab_bc mt_Forest_grow) 158 = .ok (.aload_n 0, 1) := by decide +kernel
theorem d_Forest_grow_159 : decode (ab_bc mt_Forest_grow) 159 = .ok (.dup, 1) := by decide +kernel
theorem d_Forest_grow_160 : decode (ab_bc mt_Forest_grow) 160 = .ok (.getfield 25, 3) := by decide +kernel
theorem d_Forest_grow_163 : decode (ab_bc mt_Forest_grow) 163 = .ok (.iconst 1, 1) := by decide +kernel
theorem d_Forest_grow_164 : decode (ab_bc mt_Forest_grow) 164 = .ok (.isub, 1) := by decide +kernel
theorem d_Forest_grow_165 : decode (ab_bc mt_Forest_grow) 165 = .ok (.putfield 25, 3) := by decide +kernel
theorem d_Forest_grow_168 : decode (ab_bc mt_Forest_grow) 168 = .ok (.iinc 3 1, 3) := by decide +kernel
theorem d_Forest_grow_171 : decode (ab_bc mt_Forest_grow) 171 = .ok (.goto (-125), 3) := by decide +kernel
theorem d_Forest_grow_174 : decode (ab_bc mt_Forest_grow) 174 = .ok (.return_, 1) := by decide +kernel
-- CableKeeper$Forest.grow(LCableKeeper$Cables;I)V over kx_trialNet, kx_now_cables
theorem q_Forest_grow_0_0 {w : ab_Wd} {d n nc ns : Nat} {I : Nat → Nat → Int32} {L : Nat → Nat → Int64} {res : ab_Re} (v2 : Int32) (hc : nc ≤ res.2.2.2.2.2.1) (hs : ns ≤ res.2.2.2.2.2.2)
    (h : ab_E w (d + 1) mt_Forest_grow 25 [.ref kx_trialNet, .ref kx_now_cables, .int v2, .int 0, .null] [] ((ab_up (ab_up (ab_up (ab_up I kx_trialNet 1 0) kx_trialNet 2 0) kx_trialNet 3 0) kx_trialNet 4 (I kx_now_cables 0)), L, ab_RR, n, nc, ns) res) : ab_E w (d + 1) mt_Forest_grow 0 [.ref kx_trialNet, .ref kx_now_cables, .int v2, .null, .null] [] (I, L, ab_RR, n, nc, ns) res := by
  refine ab_aload_n (i := 0) d_Forest_grow_0 rfl rfl ?_
  refine ab_iconst (v := 0) d_Forest_grow_1 rfl ?_
  refine ab_putI (ci := 2) (k := 1) d_Forest_grow_2 v_331 rfl (by decide) (by decide) rfl (Or.inl rfl) rfl rfl ?_
  refine ab_aload_n (i := 0) d_Forest_grow_5 rfl rfl ?_
  refine ab_iconst (v := 0) d_Forest_grow_6 rfl ?_
  refine ab_putI (ci := 2) (k := 2) d_Forest_grow_7 v_334 rfl (by decide) (by decide) rfl (Or.inl rfl) rfl rfl ?_
  refine ab_aload_n (i := 0) d_Forest_grow_10 rfl rfl ?_
  refine ab_iconst (v := 0) d_Forest_grow_11 rfl ?_
  refine ab_putI (ci := 2) (k := 3) d_Forest_grow_12 v_336 rfl (by decide) (by decide) rfl (Or.inl rfl) rfl rfl ?_
  refine ab_aload_n (i := 0) d_Forest_grow_15 rfl rfl ?_
  refine ab_aload_n (i := 1) d_Forest_grow_16 rfl rfl ?_
  refine ab_getI (ci := 1) (k := 0) d_Forest_grow_17 v_187 rfl (by decide) (by decide) rfl ?_
  refine ab_putI (ci := 2) (k := 4) d_Forest_grow_20 v_338 rfl (by decide) (by decide) rfl (Or.inl rfl) rfl rfl ?_
  refine ab_iconst (v := 0) d_Forest_grow_23 rfl ?_
  refine ab_istore_n (i := 3) d_Forest_grow_24 rfl (by decide) (Or.inr rfl) ?_
  exact h
theorem q_Forest_grow_0_25 {w : ab_Wd} {d n nc ns : Nat} {I : Nat → Nat → Int32} {L : Nat → Nat → Int64} {res : ab_Re} (v2 : Int32) (v3 : Int32) (hc : nc ≤ res.2.2.2.2.2.1) (hs : ns ≤ res.2.2.2.2.2.2)
    (h : ((10 ≤ v3 → (ab_E w (d + 1) mt_Forest_grow 46 [.ref kx_trialNet, .ref kx_now_cables, .int v2, .int 0, .null] [] (I, L, ab_RR, n, nc, ns) res)) ∧ (¬ 10 ≤ v3 → ((vp_in v3 10) ∧ ab_E w (d + 1) mt_Forest_grow 25 [.ref kx_trialNet, .ref kx_now_cables, .int v2, .int (v3 + 1), .null] [] ((ab_up I kx_trialNet_piece v3.toNatClampNeg v3), L, ab_RR, n, nc, ns) res)))) : ab_E w (d + 1) mt_Forest_grow 25 [.ref kx_trialNet, .ref kx_now_cables, .int v2, .int v3, .null] [] (I, L, ab_RR, n, nc, ns) res := by
  refine ab_iload_n (i := 3) d_Forest_grow_25 rfl rfl ?_
  refine ab_bipush (v := 10) d_Forest_grow_26 rfl ?_
  refine ab_icmp_ge (tgt := 44) d_Forest_grow_28 (by decide) (fun c1 => ?_) (fun c1 => ?_)
  · have h := h.1 c1
    refine ab_iconst (v := 0) d_Forest_grow_44 rfl ?_
    refine ab_istore_n (i := 3) d_Forest_grow_45 rfl (by decide) (Or.inr rfl) ?_
    exact h
  · have h := h.2 c1
    refine ab_aload_n (i := 0) d_Forest_grow_31 rfl rfl ?_
    refine ab_getR (ci := 2) (k := 5) (j := kx_trialNet_piece) d_Forest_grow_32 v_340 rfl (by decide) (by decide) rfl r_kx_trialNet_5 ?_
    refine ab_iload_n (i := 3) d_Forest_grow_35 rfl rfl ?_
    refine ab_iload_n (i := 3) d_Forest_grow_36 rfl rfl ?_
    have g2 := h.1; have h := h.2
    refine ab_iast d_Forest_grow_37 rfl rfl g2 ?_
    refine ab_iinc (i := 3) (v := (v3 + 1)) d_Forest_grow_38 rfl rfl (by decide) (Or.inr rfl) ?_
    refine ab_goto (tgt := 25) d_Forest_grow_41 (by decide) ?_
    exact h
theorem q_Forest_grow_0_46 {w : ab_Wd} {d n nc ns : Nat} {I : Nat → Nat → Int32} {L : Nat → Nat → Int64} {res : ab_Re} (v2 : Int32) (v3 : Int32) (hc : nc ≤ res.2.2.2.2.2.1) (hs : ns ≤ res.2.2.2.2.2.2)
    (h : (((I kx_now_cables 1) ≤ v3 → (ab_E w (d + 1) mt_Forest_grow 174 [.ref kx_trialNet, .ref kx_now_cables, .int v2, .int v3, .null] [] (I, L, ab_RR, n, nc, ns) res)) ∧ (¬ (I kx_now_cables 1) ≤ v3 → ((9 ≤ (I kx_trialNet 1) → (ab_E w (d + 1) mt_Forest_grow 174 [.ref kx_trialNet, .ref kx_now_cables, .int v2, .int v3, .null] [] (I, L, ab_RR, n, nc, ns) res)) ∧ (¬ 9 ≤ (I kx_trialNet 1) → ((vp_in v3 24) ∧ ((¬ ((v2 >>> ((I kx_now_cables_order v3.toNatClampNeg) &&& 31)) &&& 1) = 1 → (ab_E w (d + 1) mt_Forest_grow 168 [.ref kx_trialNet, .ref kx_now_cables, .int v2, .int v3, .int (I kx_now_cables_order v3.toNatClampNeg)] [] (I, L, ab_RR, n, nc, ns) res)) ∧ (((v2 >>> ((I kx_now_cables_order v3.toNatClampNeg) &&& 31)) &&& 1) = 1 → ((vp_in (I kx_now_cables_order v3.toNatClampNeg) 24) ∧ ∃ (r6 : Int32) (I7 : Nat → Nat → Int32), ab_C w d mt_K_unite [.ref kx_trialNet_piece, .int (I kx_now_cables_first (I kx_now_cables_order v3.toNatClampNeg).toNatClampNeg), .int (I kx_now_cables_second (I kx_now_cables_order v3.toNatClampNeg).toNatClampNeg)] (I, L, ab_RR, n, nc, ns) (.inl (some (.int r6)), (I7, L, ab_RR, n, nc, ns)) ∧ ((r6 = 0 → (ab_E w (d + 1) mt_Forest_grow 168 [.ref kx_trialNet, .ref kx_now_cables, .int v2, .int v3, .int (I kx_now_cables_order v3.toNatClampNeg)] [] (I7, L, ab_RR, n, nc, ns) res)) ∧ (¬ r6 = 0 → ((vp_in (I7 kx_trialNet 1) 9) ∧ ab_E w (d + 1) mt_Forest_grow 168 [.ref kx_trialNet, .ref kx_now_cables, .int v2, .int v3, .int (I kx_now_cables_order v3.toNatClampNeg)] [] ((ab_up (ab_up (ab_up (ab_up (ab_up I7 kx_trialNet_order (I7 kx_trialNet 1).toNatClampNeg (I kx_now_cables_order v3.toNatClampNeg)) kx_trialNet 1 ((I7 kx_trialNet 1) + 1)) kx_trialNet 2 ((I7 kx_trialNet 2) ||| ((1 : Int32) <<< ((I kx_now_cables_order v3.toNatClampNeg) &&& 31)))) kx_trialNet 3 ((I7 kx_trialNet 3) + (I7 kx_now_cables_price (I kx_now_cables_order v3.toNatClampNeg).toNatClampNeg))) kx_trialNet 4 ((I7 kx_trialNet 4) - 1)), L, ab_RR, n, nc, ns) res)))))))))))) : ab_E w (d + 1) mt_Forest_grow 46 [.ref kx_trialNet, .ref kx_now_cables, .int v2, .int v3, .null] [] (I, L, ab_RR, n, nc, ns) res := by
  refine ab_iload_n (i := 3) d_Forest_grow_46 rfl rfl ?_
  refine ab_aload_n (i := 1) d_Forest_grow_47 rfl rfl ?_
  refine ab_getI (ci := 1) (k := 1) d_Forest_grow_48 v_195 rfl (by decide) (by decide) rfl ?_
  refine ab_icmp_ge (tgt := 174) d_Forest_grow_51 (by decide) (fun c1 => ?_) (fun c1 => ?_)
  · have h := h.1 c1
    exact h
  · have h := h.2 c1
    refine ab_aload_n (i := 0) d_Forest_grow_54 rfl rfl ?_
    refine ab_getI (ci := 2) (k := 1) d_Forest_grow_55 v_331 rfl (by decide) (by decide) rfl ?_
    refine ab_aload_n (i := 0) d_Forest_grow_58 rfl rfl ?_
    refine ab_getR (ci := 2) (k := 0) (j := kx_trialNet_order) d_Forest_grow_59 v_328 rfl (by decide) (by decide) rfl r_kx_trialNet_0 ?_
    refine ab_alen (v := 9) d_Forest_grow_62 (by decide) (by decide) rfl ?_
    refine ab_icmp_ge (tgt := 174) d_Forest_grow_63 (by decide) (fun c2 => ?_) (fun c2 => ?_)
    · have h := h.1 c2
      exact h
    · have h := h.2 c2
      refine ab_aload_n (i := 1) d_Forest_grow_66 rfl rfl ?_
      refine ab_getR (ci := 1) (k := 7) (j := kx_now_cables_order) d_Forest_grow_67 v_231 rfl (by decide) (by decide) rfl r_kx_now_cables_7 ?_
      refine ab_iload_n (i := 3) d_Forest_grow_70 rfl rfl ?_
      have g3 := h.1; have h := h.2
      refine ab_iald d_Forest_grow_71 rfl rfl g3 ?_
      refine ab_istore (i := 4) d_Forest_grow_72 (by decide) (Or.inr rfl) ?_
      refine ab_iload_n (i := 2) d_Forest_grow_74 rfl rfl ?_
      refine ab_iload (i := 4) d_Forest_grow_75 rfl ?_
      refine ab_ishr d_Forest_grow_77 ?_
      refine ab_iconst (v := 1) d_Forest_grow_78 rfl ?_
      refine ab_iand d_Forest_grow_79 ?_
      refine ab_iconst (v := 1) d_Forest_grow_80 rfl ?_
      refine ab_icmp_ne (tgt := 168) d_Forest_grow_81 (by decide) (fun c4 => ?_) (fun c4 => ?_)
      · have h := h.1 c4
        exact h
      · have h := h.2 c4
        refine ab_aload_n (i := 0) d_Forest_grow_84 rfl rfl ?_
        refine ab_getR (ci := 2) (k := 5) (j := kx_trialNet_piece) d_Forest_grow_85 v_340 rfl (by decide) (by decide) rfl r_kx_trialNet_5 ?_
        refine ab_aload_n (i := 1) d_Forest_grow_88 rfl rfl ?_
        refine ab_getR (ci := 1) (k := 3) (j := kx_now_cables_first) d_Forest_grow_89 v_207 rfl (by decide) (by decide) rfl r_kx_now_cables_3 ?_
        refine ab_iload (i := 4) d_Forest_grow_92 rfl ?_
        have g5 := h.1; have h := h.2
        refine ab_iald d_Forest_grow_94 rfl rfl g5 ?_
        refine ab_aload_n (i := 1) d_Forest_grow_95 rfl rfl ?_
        refine ab_getR (ci := 1) (k := 4) (j := kx_now_cables_second) d_Forest_grow_96 v_214 rfl (by decide) (by decide) rfl r_kx_now_cables_4 ?_
        refine ab_iload (i := 4) d_Forest_grow_99 rfl ?_
        refine ab_iald d_Forest_grow_101 rfl rfl g5 ?_
        obtain ⟨r6, I7, hC, h⟩ := h
        refine ab_callS (me2 := mt_K_unite) (as := [.ref kx_trialNet_piece, .int (I kx_now_cables_first (I kx_now_cables_order v3.toNatClampNeg).toNatClampNeg), .int (I kx_now_cables_second (I kx_now_cables_order v3.toNatClampNeg).toNatClampNeg)]) (st := []) (rv := (some (.int r6))) (M2 := (I7, L, ab_RR, n, nc, ns)) d_Forest_grow_102 ce_K_unite ⟨v_445, Or.inr ⟨_, u_444⟩⟩ (Nat.le_of_ble_eq_true rfl) hC (Nat.le_refl _) (Nat.le_refl _) hc hs (fun j h9 => by cases h9) (fun _ _ => rfl) ?_
        show ab_E w (d + 1) mt_Forest_grow 105 [.ref kx_trialNet, .ref kx_now_cables, .int v2, .int v3, .int (I kx_now_cables_order v3.toNatClampNeg)] [.int r6] (I7, L, ab_RR, n, nc, ns) res
        refine ab_if_eq (tgt := 168) d_Forest_grow_105 (by decide) (fun c8 => ?_) (fun c8 => ?_)
        · have h := h.1 c8
          exact h
        · have h := h.2 c8
          refine ab_aload_n (i := 0) d_Forest_grow_108 rfl rfl ?_
          refine ab_getR (ci := 2) (k := 0) (j := kx_trialNet_order) d_Forest_grow_109 v_328 rfl (by decide) (by decide) rfl r_kx_trialNet_0 ?_
          refine ab_aload_n (i := 0) d_Forest_grow_112 rfl rfl ?_
          refine ab_getI (ci := 2) (k := 1) d_Forest_grow_113 v_331 rfl (by decide) (by decide) rfl ?_
          refine ab_iload (i := 4) d_Forest_grow_116 rfl ?_
          have g9 := h.1; have h := h.2
          refine ab_iast d_Forest_grow_118 rfl rfl g9 ?_
          refine ab_aload_n (i := 0) d_Forest_grow_119 rfl rfl ?_
          refine ab_dupr d_Forest_grow_120 ?_
          refine ab_getI (ci := 2) (k := 1) d_Forest_grow_121 v_331 rfl (by decide) (by decide) rfl ?_
          refine ab_iconst (v := 1) d_Forest_grow_124 rfl ?_
          refine ab_iadd d_Forest_grow_125 ?_
          refine ab_putI (ci := 2) (k := 1) d_Forest_grow_126 v_331 rfl (by decide) (by decide) rfl (Or.inl rfl) rfl rfl ?_
          refine ab_aload_n (i := 0) d_Forest_grow_129 rfl rfl ?_
          refine ab_dupr d_Forest_grow_130 ?_
          refine ab_getI (ci := 2) (k := 2) d_Forest_grow_131 v_334 rfl (by decide) (by decide) rfl ?_
          refine ab_iconst (v := 1) d_Forest_grow_134 rfl ?_
          refine ab_iload (i := 4) d_Forest_grow_135 rfl ?_
          refine ab_ishl d_Forest_grow_137 ?_
          refine ab_ior d_Forest_grow_138 ?_
          refine ab_putI (ci := 2) (k := 2) d_Forest_grow_139 v_334 rfl (by decide) (by decide) rfl (Or.inl rfl) rfl rfl ?_
          refine ab_aload_n (i := 0) d_Forest_grow_142 rfl rfl ?_
          refine ab_dupr d_Forest_grow_143 ?_
          refine ab_getI (ci := 2) (k := 3) d_Forest_grow_144 v_336 rfl (by decide) (by decide) rfl ?_
          refine ab_aload_n (i := 1) d_Forest_grow_147 rfl rfl ?_
          refine ab_getR (ci := 1) (k := 5) (j := kx_now_cables_price) d_Forest_grow_148 v_221 rfl (by decide) (by decide) rfl r_kx_now_cables_5 ?_
          refine ab_iload (i := 4) d_Forest_grow_151 rfl ?_
          refine ab_iald d_Forest_grow_153 rfl rfl g5 ?_
          refine ab_iadd d_Forest_grow_154 ?_
          refine ab_putI (ci := 2) (k := 3) d_Forest_grow_155 v_336 rfl (by decide) (by decide) rfl (Or.inl rfl) rfl rfl ?_
          refine ab_aload_n (i := 0) d_Forest_grow_158 rfl rfl ?_
          refine ab_dupr d_Forest_grow_159 ?_
          refine ab_getI (ci := 2) (k := 4) d_Forest_grow_160 v_338 rfl (by decide) (by decide) rfl ?_
          refine ab_iconst (v := 1) d_Forest_grow_163 rfl ?_
          refine ab_isub d_Forest_grow_164 ?_
          refine ab_putI (ci := 2) (k := 4) d_Forest_grow_165 v_338 rfl (by decide) (by decide) rfl (Or.inl rfl) rfl rfl ?_
          exact h
theorem q_Forest_grow_0_168 {w : ab_Wd} {d n nc ns : Nat} {I : Nat → Nat → Int32} {L : Nat → Nat → Int64} {res : ab_Re} (v2 : Int32) (v3 : Int32) (v4 : Int32) (hc : nc ≤ res.2.2.2.2.2.1) (hs : ns ≤ res.2.2.2.2.2.2)
    (h : ab_E w (d + 1) mt_Forest_grow 46 [.ref kx_trialNet, .ref kx_now_cables, .int v2, .int (v3 + 1), .null] [] (I, L, ab_RR, n, nc, ns) res) : ab_E w (d + 1) mt_Forest_grow 168 [.ref kx_trialNet, .ref kx_now_cables, .int v2, .int v3, .int v4] [] (I, L, ab_RR, n, nc, ns) res := by
  refine ab_iinc (i := 3) (v := (v3 + 1)) d_Forest_grow_168 rfl rfl (by decide) (Or.inr rfl) ?_
  refine ab_goto (tgt := 46) d_Forest_grow_171 (by decide) ?_
  refine ab_drop 4 ?_
  exact h
theorem q_Forest_grow_0_174 {w : ab_Wd} {d n nc ns : Nat} {I : Nat → Nat → Int32} {L : Nat → Nat → Int64} {res : ab_Re} (v2 : Int32) (v3 : Int32) (hc : nc ≤ res.2.2.2.2.2.1) (hs : ns ≤ res.2.2.2.2.2.2)
    (h : res = (.inl none, (I, L, ab_RR, n, nc, ns))) : ab_E w (d + 1) mt_Forest_grow 174 [.ref kx_trialNet, .ref kx_now_cables, .int v2, .int v3, .null] [] (I, L, ab_RR, n, nc, ns) res := by
  exact ab_vret d_Forest_grow_174 rfl h
-- CableKeeper$Forest.grow(LCableKeeper$Cables;I)V over kx_trialNet, kx_trial
theorem q_Forest_grow_1_0 {w : ab_Wd} {d n nc ns : Nat} {I : Nat → Nat → Int32} {L : Nat → Nat → Int64} {res : ab_Re} (v2 : Int32) (hc : nc ≤ res.2.2.2.2.2.1) (hs : ns ≤ res.2.2.2.2.2.2)
    (h : ab_E w (d + 1) mt_Forest_grow 25 [.ref kx_trialNet, .ref kx_trial, .int v2, .int 0, .null] [] ((ab_up (ab_up (ab_up (ab_up I kx_trialNet 1 0) kx_trialNet 2 0) kx_trialNet 3 0) kx_trialNet 4 (I kx_trial 0)), L, ab_RR, n, nc, ns) res) : ab_E w (d + 1) mt_Forest_grow 0 [.ref kx_trialNet, .ref kx_trial, .int v2, .null, .null] [] (I, L, ab_RR, n, nc, ns) res := by
  refine ab_aload_n (i := 0) d_Forest_grow_0 rfl rfl ?_
  refine ab_iconst (v := 0) d_Forest_grow_1 rfl ?_
  refine ab_putI (ci := 2) (k := 1) d_Forest_grow_2 v_331 rfl (by decide) (by decide) rfl (Or.inl rfl) rfl rfl ?_
  refine ab_aload_n (i := 0) d_Forest_grow_5 rfl rfl ?_
  refine ab_iconst (v := 0) d_Forest_grow_6 rfl ?_
  refine ab_putI (ci := 2) (k := 2) d_Forest_grow_7 v_334 rfl (by decide) (by decide) rfl (Or.inl rfl) rfl rfl ?_
  refine ab_aload_n (i := 0) d_Forest_grow_10 rfl rfl ?_
  refine ab_iconst (v := 0) d_Forest_grow_11 rfl ?_
  refine ab_putI (ci := 2) (k := 3) d_Forest_grow_12 v_336 rfl (by decide) (by decide) rfl (Or.inl rfl) rfl rfl ?_
  refine ab_aload_n (i := 0) d_Forest_grow_15 rfl rfl ?_
  refine ab_aload_n (i := 1) d_Forest_grow_16 rfl rfl ?_
  refine ab_getI (ci := 1) (k := 0) d_Forest_grow_17 v_187 rfl (by decide) (by decide) rfl ?_
  refine ab_putI (ci := 2) (k := 4) d_Forest_grow_20 v_338 rfl (by decide) (by decide) rfl (Or.inl rfl) rfl rfl ?_
  refine ab_iconst (v := 0) d_Forest_grow_23 rfl ?_
  refine ab_istore_n (i := 3) d_Forest_grow_24 rfl (by decide) (Or.inr rfl) ?_
  exact h
theorem q_Forest_grow_1_25 {w : ab_Wd} {d n nc ns : Nat} {I : Nat → Nat → Int32} {L : Nat → Nat → Int64} {res : ab_Re} (v2 : Int32) (v3 : Int32) (hc : nc ≤ res.2.2.2.2.2.1) (hs : ns ≤ res.2.2.2.2.2.2)
    (h : ((10 ≤ v3 → (ab_E w (d + 1) mt_Forest_grow 46 [.ref kx_trialNet, .ref kx_trial, .int v2, .int 0, .null] [] (I, L, ab_RR, n, nc, ns) res)) ∧ (¬ 10 ≤ v3 → ((vp_in v3 10) ∧ ab_E w (d + 1) mt_Forest_grow 25 [.ref kx_trialNet, .ref kx_trial, .int v2, .int (v3 + 1), .null] [] ((ab_up I kx_trialNet_piece v3.toNatClampNeg v3), L, ab_RR, n, nc, ns) res)))) : ab_E w (d + 1) mt_Forest_grow 25 [.ref kx_trialNet, .ref kx_trial, .int v2, .int v3, .null] [] (I, L, ab_RR, n, nc, ns) res := by
  refine ab_iload_n (i := 3) d_Forest_grow_25 rfl rfl ?_
  refine ab_bipush (v := 10) d_Forest_grow_26 rfl ?_
  refine ab_icmp_ge (tgt := 44) d_Forest_grow_28 (by decide) (fun c1 => ?_) (fun c1 => ?_)
  · have h := h.1 c1
    refine ab_iconst (v := 0) d_Forest_grow_44 rfl ?_
    refine ab_istore_n (i := 3) d_Forest_grow_45 rfl (by decide) (Or.inr rfl) ?_
    exact h
  · have h := h.2 c1
    refine ab_aload_n (i := 0) d_Forest_grow_31 rfl rfl ?_
    refine ab_getR (ci := 2) (k := 5) (j := kx_trialNet_piece) d_Forest_grow_32 v_340 rfl (by decide) (by decide) rfl r_kx_trialNet_5 ?_
    refine ab_iload_n (i := 3) d_Forest_grow_35 rfl rfl ?_
    refine ab_iload_n (i := 3) d_Forest_grow_36 rfl rfl ?_
    have g2 := h.1; have h := h.2
    refine ab_iast d_Forest_grow_37 rfl rfl g2 ?_
    refine ab_iinc (i := 3) (v := (v3 + 1)) d_Forest_grow_38 rfl rfl (by decide) (Or.inr rfl) ?_
    refine ab_goto (tgt := 25) d_Forest_grow_41 (by decide) ?_
    exact h
theorem q_Forest_grow_1_46 {w : ab_Wd} {d n nc ns : Nat} {I : Nat → Nat → Int32} {L : Nat → Nat → Int64} {res : ab_Re} (v2 : Int32) (v3 : Int32) (hc : nc ≤ res.2.2.2.2.2.1) (hs : ns ≤ res.2.2.2.2.2.2)
    (h : (((I kx_trial 1) ≤ v3 → (ab_E w (d + 1) mt_Forest_grow 174 [.ref kx_trialNet, .ref kx_trial, .int v2, .int v3, .null] [] (I, L, ab_RR, n, nc, ns) res)) ∧ (¬ (I kx_trial 1) ≤ v3 → ((9 ≤ (I kx_trialNet 1) → (ab_E w (d + 1) mt_Forest_grow 174 [.ref kx_trialNet, .ref kx_trial, .int v2, .int v3, .null] [] (I, L, ab_RR, n, nc, ns) res)) ∧ (¬ 9 ≤ (I kx_trialNet 1) → ((vp_in v3 24) ∧ ((¬ ((v2 >>> ((I kx_trial_order v3.toNatClampNeg) &&& 31)) &&& 1) = 1 → (ab_E w (d + 1) mt_Forest_grow 168 [.ref kx_trialNet, .ref kx_trial, .int v2, .int v3, .int (I kx_trial_order v3.toNatClampNeg)] [] (I, L, ab_RR, n, nc, ns) res)) ∧ (((v2 >>> ((I kx_trial_order v3.toNatClampNeg) &&& 31)) &&& 1) = 1 → ((vp_in (I kx_trial_order v3.toNatClampNeg) 24) ∧ ∃ (r6 : Int32) (I7 : Nat → Nat → Int32), ab_C w d mt_K_unite [.ref kx_trialNet_piece, .int (I kx_trial_first (I kx_trial_order v3.toNatClampNeg).toNatClampNeg), .int (I kx_trial_second (I kx_trial_order v3.toNatClampNeg).toNatClampNeg)] (I, L, ab_RR, n, nc, ns) (.inl (some (.int r6)), (I7, L, ab_RR, n, nc, ns)) ∧ ((r6 = 0 → (ab_E w (d + 1) mt_Forest_grow 168 [.ref kx_trialNet, .ref kx_trial, .int v2, .int v3, .int (I kx_trial_order v3.toNatClampNeg)] [] (I7, L, ab_RR, n, nc, ns) res)) ∧ (¬ r6 = 0 → ((vp_in (I7 kx_trialNet 1) 9) ∧ ab_E w (d + 1) mt_Forest_grow 168 [.ref kx_trialNet, .ref kx_trial, .int v2, .int v3, .int (I kx_trial_order v3.toNatClampNeg)] [] ((ab_up (ab_up (ab_up (ab_up (ab_up I7 kx_trialNet_order (I7 kx_trialNet 1).toNatClampNeg (I kx_trial_order v3.toNatClampNeg)) kx_trialNet 1 ((I7 kx_trialNet 1) + 1)) kx_trialNet 2 ((I7 kx_trialNet 2) ||| ((1 : Int32) <<< ((I kx_trial_order v3.toNatClampNeg) &&& 31)))) kx_trialNet 3 ((I7 kx_trialNet 3) + (I7 kx_trial_price (I kx_trial_order v3.toNatClampNeg).toNatClampNeg))) kx_trialNet 4 ((I7 kx_trialNet 4) - 1)), L, ab_RR, n, nc, ns) res)))))))))))) : ab_E w (d + 1) mt_Forest_grow 46 [.ref kx_trialNet, .ref kx_trial, .int v2, .int v3, .null] [] (I, L, ab_RR, n, nc, ns) res := by
  refine ab_iload_n (i := 3) d_Forest_grow_46 rfl rfl ?_
  refine ab_aload_n (i := 1) d_Forest_grow_47 rfl rfl ?_
  refine ab_getI (ci := 1) (k := 1) d_Forest_grow_48 v_195 rfl (by decide) (by decide) rfl ?_
  refine ab_icmp_ge (tgt := 174) d_Forest_grow_51 (by decide) (fun c1 => ?_) (fun c1 => ?_)
  · have h := h.1 c1
    exact h
  · have h := h.2 c1
    refine ab_aload_n (i := 0) d_Forest_grow_54 rfl rfl ?_
    refine ab_getI (ci := 2) (k := 1) d_Forest_grow_55 v_331 rfl (by decide) (by decide) rfl ?_
    refine ab_aload_n (i := 0) d_Forest_grow_58 rfl rfl ?_
    refine ab_getR (ci := 2) (k := 0) (j := kx_trialNet_order) d_Forest_grow_59 v_328 rfl (by decide) (by decide) rfl r_kx_trialNet_0 ?_
    refine ab_alen (v := 9) d_Forest_grow_62 (by decide) (by decide) rfl ?_
    refine ab_icmp_ge (tgt := 174) d_Forest_grow_63 (by decide) (fun c2 => ?_) (fun c2 => ?_)
    · have h := h.1 c2
      exact h
    · have h := h.2 c2
      refine ab_aload_n (i := 1) d_Forest_grow_66 rfl rfl ?_
      refine ab_getR (ci := 1) (k := 7) (j := kx_trial_order) d_Forest_grow_67 v_231 rfl (by decide) (by decide) rfl r_kx_trial_7 ?_
      refine ab_iload_n (i := 3) d_Forest_grow_70 rfl rfl ?_
      have g3 := h.1; have h := h.2
      refine ab_iald d_Forest_grow_71 rfl rfl g3 ?_
      refine ab_istore (i := 4) d_Forest_grow_72 (by decide) (Or.inr rfl) ?_
      refine ab_iload_n (i := 2) d_Forest_grow_74 rfl rfl ?_
      refine ab_iload (i := 4) d_Forest_grow_75 rfl ?_
      refine ab_ishr d_Forest_grow_77 ?_
      refine ab_iconst (v := 1) d_Forest_grow_78 rfl ?_
      refine ab_iand d_Forest_grow_79 ?_
      refine ab_iconst (v := 1) d_Forest_grow_80 rfl ?_
      refine ab_icmp_ne (tgt := 168) d_Forest_grow_81 (by decide) (fun c4 => ?_) (fun c4 => ?_)
      · have h := h.1 c4
        exact h
      · have h := h.2 c4
        refine ab_aload_n (i := 0) d_Forest_grow_84 rfl rfl ?_
        refine ab_getR (ci := 2) (k := 5) (j := kx_trialNet_piece) d_Forest_grow_85 v_340 rfl (by decide) (by decide) rfl r_kx_trialNet_5 ?_
        refine ab_aload_n (i := 1) d_Forest_grow_88 rfl rfl ?_
        refine ab_getR (ci := 1) (k := 3) (j := kx_trial_first) d_Forest_grow_89 v_207 rfl (by decide) (by decide) rfl r_kx_trial_3 ?_
        refine ab_iload (i := 4) d_Forest_grow_92 rfl ?_
        have g5 := h.1; have h := h.2
        refine ab_iald d_Forest_grow_94 rfl rfl g5 ?_
        refine ab_aload_n (i := 1) d_Forest_grow_95 rfl rfl ?_
        refine ab_getR (ci := 1) (k := 4) (j := kx_trial_second) d_Forest_grow_96 v_214 rfl (by decide) (by decide) rfl r_kx_trial_4 ?_
        refine ab_iload (i := 4) d_Forest_grow_99 rfl ?_
        refine ab_iald d_Forest_grow_101 rfl rfl g5 ?_
        obtain ⟨r6, I7, hC, h⟩ := h
        refine ab_callS (me2 := mt_K_unite) (as := [.ref kx_trialNet_piece, .int (I kx_trial_first (I kx_trial_order v3.toNatClampNeg).toNatClampNeg), .int (I kx_trial_second (I kx_trial_order v3.toNatClampNeg).toNatClampNeg)]) (st := []) (rv := (some (.int r6))) (M2 := (I7, L, ab_RR, n, nc, ns)) d_Forest_grow_102 ce_K_unite ⟨v_445, Or.inr ⟨_, u_444⟩⟩ (Nat.le_of_ble_eq_true rfl) hC (Nat.le_refl _) (Nat.le_refl _) hc hs (fun j h9 => by cases h9) (fun _ _ => rfl) ?_
        show ab_E w (d + 1) mt_Forest_grow 105 [.ref kx_trialNet, .ref kx_trial, .int v2, .int v3, .int (I kx_trial_order v3.toNatClampNeg)] [.int r6] (I7, L, ab_RR, n, nc, ns) res
        refine ab_if_eq (tgt := 168) d_Forest_grow_105 (by decide) (fun c8 => ?_) (fun c8 => ?_)
        · have h := h.1 c8
          exact h
        · have h := h.2 c8
          refine ab_aload_n (i := 0) d_Forest_grow_108 rfl rfl ?_
          refine ab_getR (ci := 2) (k := 0) (j := kx_trialNet_order) d_Forest_grow_109 v_328 rfl (by decide) (by decide) rfl r_kx_trialNet_0 ?_
          refine ab_aload_n (i := 0) d_Forest_grow_112 rfl rfl ?_
          refine ab_getI (ci := 2) (k := 1) d_Forest_grow_113 v_331 rfl (by decide) (by decide) rfl ?_
          refine ab_iload (i := 4) d_Forest_grow_116 rfl ?_
          have g9 := h.1; have h := h.2
          refine ab_iast d_Forest_grow_118 rfl rfl g9 ?_
          refine ab_aload_n (i := 0) d_Forest_grow_119 rfl rfl ?_
          refine ab_dupr d_Forest_grow_120 ?_
          refine ab_getI (ci := 2) (k := 1) d_Forest_grow_121 v_331 rfl (by decide) (by decide) rfl ?_
          refine ab_iconst (v := 1) d_Forest_grow_124 rfl ?_
          refine ab_iadd d_Forest_grow_125 ?_
          refine ab_putI (ci := 2) (k := 1) d_Forest_grow_126 v_331 rfl (by decide) (by decide) rfl (Or.inl rfl) rfl rfl ?_
          refine ab_aload_n (i := 0) d_Forest_grow_129 rfl rfl ?_
          refine ab_dupr d_Forest_grow_130 ?_
          refine ab_getI (ci := 2) (k := 2) d_Forest_grow_131 v_334 rfl (by decide) (by decide) rfl ?_
          refine ab_iconst (v := 1) d_Forest_grow_134 rfl ?_
          refine ab_iload (i := 4) d_Forest_grow_135 rfl ?_
          refine ab_ishl d_Forest_grow_137 ?_
          refine ab_ior d_Forest_grow_138 ?_
          refine ab_putI (ci := 2) (k := 2) d_Forest_grow_139 v_334 rfl (by decide) (by decide) rfl (Or.inl rfl) rfl rfl ?_
          refine ab_aload_n (i := 0) d_Forest_grow_142 rfl rfl ?_
          refine ab_dupr d_Forest_grow_143 ?_
          refine ab_getI (ci := 2) (k := 3) d_Forest_grow_144 v_336 rfl (by decide) (by decide) rfl ?_
          refine ab_aload_n (i := 1) d_Forest_grow_147 rfl rfl ?_
          refine ab_getR (ci := 1) (k := 5) (j := kx_trial_price) d_Forest_grow_148 v_221 rfl (by decide) (by decide) rfl r_kx_trial_5 ?_
          refine ab_iload (i := 4) d_Forest_grow_151 rfl ?_
          refine ab_iald d_Forest_grow_153 rfl rfl g5 ?_
          refine ab_iadd d_Forest_grow_154 ?_
          refine ab_putI (ci := 2) (k := 3) d_Forest_grow_155 v_336 rfl (by decide) (by decide) rfl (Or.inl rfl) rfl rfl ?_
          refine ab_aload_n (i := 0) d_Forest_grow_158 rfl rfl ?_
          refine ab_dupr d_Forest_grow_159 ?_
          refine ab_getI (ci := 2) (k := 4) d_Forest_grow_160 v_338 rfl (by decide) (by decide) rfl ?_
          refine ab_iconst (v := 1) d_Forest_grow_163 rfl ?_
          refine ab_isub d_Forest_grow_164 ?_
          refine ab_putI (ci := 2) (k := 4) d_Forest_grow_165 v_338 rfl (by decide) (by decide) rfl (Or.inl rfl) rfl rfl ?_
          exact h
theorem q_Forest_grow_1_168 {w : ab_Wd} {d n nc ns : Nat} {I : Nat → Nat → Int32} {L : Nat → Nat → Int64} {res : ab_Re} (v2 : Int32) (v3 : Int32) (v4 : Int32) (hc : nc ≤ res.2.2.2.2.2.1) (hs : ns ≤ res.2.2.2.2.2.2)
    (h : ab_E w (d + 1) mt_Forest_grow 46 [.ref kx_trialNet, .ref kx_trial, .int v2, .int (v3 + 1), .null] [] (I, L, ab_RR, n, nc, ns) res) : ab_E w (d + 1) mt_Forest_grow 168 [.ref kx_trialNet, .ref kx_trial, .int v2, .int v3, .int v4] [] (I, L, ab_RR, n, nc, ns) res := by
  refine ab_iinc (i := 3) (v := (v3 + 1)) d_Forest_grow_168 rfl rfl (by decide) (Or.inr rfl) ?_
  refine ab_goto (tgt := 46) d_Forest_grow_171 (by decide) ?_
  refine ab_drop 4 ?_
  exact h
theorem q_Forest_grow_1_174 {w : ab_Wd} {d n nc ns : Nat} {I : Nat → Nat → Int32} {L : Nat → Nat → Int64} {res : ab_Re} (v2 : Int32) (v3 : Int32) (hc : nc ≤ res.2.2.2.2.2.1) (hs : ns ≤ res.2.2.2.2.2.2)
    (h : res = (.inl none, (I, L, ab_RR, n, nc, ns))) : ab_E w (d + 1) mt_Forest_grow 174 [.ref kx_trialNet, .ref kx_trial, .int v2, .int v3, .null] [] (I, L, ab_RR, n, nc, ns) res := by
  exact ab_vret d_Forest_grow_174 rfl h
-- CableKeeper$Forest.grow(LCableKeeper$Cables;I)V over kx_forest, kx_now_cables
theorem q_Forest_grow_2_0 {w : ab_Wd} {d n nc ns : Nat} {I : Nat → Nat → Int32} {L : Nat → Nat → Int64} {res : ab_Re} (v2 : Int32) (hc : nc ≤ res.2.2.2.2.2.1) (hs : ns ≤ res.2.2.2.2.2.2)
    (h : ab_E w (d + 1) mt_Forest_grow 25 [.ref kx_forest, .ref kx_now_cables, .int v2, .int 0, .null] [] ((ab_up (ab_up (ab_up (ab_up I kx_forest 1 0) kx_forest 2 0) kx_forest 3 0) kx_forest 4 (I kx_now_cables 0)), L, ab_RR, n, nc, ns) res) : ab_E w (d + 1) mt_Forest_grow 0 [.ref kx_forest, .ref kx_now_cables, .int v2, .null, .null] [] (I, L, ab_RR, n, nc, ns) res := by
  refine ab_aload_n (i := 0) d_Forest_grow_0 rfl rfl ?_
  refine ab_iconst (v := 0) d_Forest_grow_1 rfl ?_
  refine ab_putI (ci := 2) (k := 1) d_Forest_grow_2 v_331 rfl (by decide) (by decide) rfl (Or.inl rfl) rfl rfl ?_
  refine ab_aload_n (i := 0) d_Forest_grow_5 rfl rfl ?_
  refine ab_iconst (v := 0) d_Forest_grow_6 rfl ?_
  refine ab_putI (ci := 2) (k := 2) d_Forest_grow_7 v_334 rfl (by decide) (by decide) rfl (Or.inl rfl) rfl rfl ?_
  refine ab_aload_n (i := 0) d_Forest_grow_10 rfl rfl ?_
  refine ab_iconst (v := 0) d_Forest_grow_11 rfl ?_
  refine ab_putI (ci := 2) (k := 3) d_Forest_grow_12 v_336 rfl (by decide) (by decide) rfl (Or.inl rfl) rfl rfl ?_
  refine ab_aload_n (i := 0) d_Forest_grow_15 rfl rfl ?_
  refine ab_aload_n (i := 1) d_Forest_grow_16 rfl rfl ?_
  refine ab_getI (ci := 1) (k := 0) d_Forest_grow_17 v_187 rfl (by decide) (by decide) rfl ?_
  refine ab_putI (ci := 2) (k := 4) d_Forest_grow_20 v_338 rfl (by decide) (by decide) rfl (Or.inl rfl) rfl rfl ?_
  refine ab_iconst (v := 0) d_Forest_grow_23 rfl ?_
  refine ab_istore_n (i := 3) d_Forest_grow_24 rfl (by decide) (Or.inr rfl) ?_
  exact h
theorem q_Forest_grow_2_25 {w : ab_Wd} {d n nc ns : Nat} {I : Nat → Nat → Int32} {L : Nat → Nat → Int64} {res : ab_Re} (v2 : Int32) (v3 : Int32) (hc : nc ≤ res.2.2.2.2.2.1) (hs : ns ≤ res.2.2.2.2.2.2)
    (h : ((10 ≤ v3 → (ab_E w (d + 1) mt_Forest_grow 46 [.ref kx_forest, .ref kx_now_cables, .int v2, .int 0, .null] [] (I, L, ab_RR, n, nc, ns) res)) ∧ (¬ 10 ≤ v3 → ((vp_in v3 10) ∧ ab_E w (d + 1) mt_Forest_grow 25 [.ref kx_forest, .ref kx_now_cables, .int v2, .int (v3 + 1), .null] [] ((ab_up I kx_forest_piece v3.toNatClampNeg v3), L, ab_RR, n, nc, ns) res)))) : ab_E w (d + 1) mt_Forest_grow 25 [.ref kx_forest, .ref kx_now_cables, .int v2, .int v3, .null] [] (I, L, ab_RR, n, nc, ns) res := by
  refine ab_iload_n (i := 3) d_Forest_grow_25 rfl rfl ?_
  refine ab_bipush (v := 10) d_Forest_grow_26 rfl ?_
  refine ab_icmp_ge (tgt := 44) d_Forest_grow_28 (by decide) (fun c1 => ?_) (fun c1 => ?_)
  · have h := h.1 c1
    refine ab_iconst (v := 0) d_Forest_grow_44 rfl ?_
    refine ab_istore_n (i := 3) d_Forest_grow_45 rfl (by decide) (Or.inr rfl) ?_
    exact h
  · have h := h.2 c1
    refine ab_aload_n (i := 0) d_Forest_grow_31 rfl rfl ?_
    refine ab_getR (ci := 2) (k := 5) (j := kx_forest_piece) d_Forest_grow_32 v_340 rfl (by decide) (by decide) rfl r_kx_forest_5 ?_
    refine ab_iload_n (i := 3) d_Forest_grow_35 rfl rfl ?_
    refine ab_iload_n (i := 3) d_Forest_grow_36 rfl rfl ?_
    have g2 := h.1; have h := h.2
    refine ab_iast d_Forest_grow_37 rfl rfl g2 ?_
    refine ab_iinc (i := 3) (v := (v3 + 1)) d_Forest_grow_38 rfl rfl (by decide) (Or.inr rfl) ?_
    refine ab_goto (tgt := 25) d_Forest_grow_41 (by decide) ?_
    exact h
theorem q_Forest_grow_2_46 {w : ab_Wd} {d n nc ns : Nat} {I : Nat → Nat → Int32} {L : Nat → Nat → Int64} {res : ab_Re} (v2 : Int32) (v3 : Int32) (hc : nc ≤ res.2.2.2.2.2.1) (hs : ns ≤ res.2.2.2.2.2.2)
    (h : (((I kx_now_cables 1) ≤ v3 → (ab_E w (d + 1) mt_Forest_grow 174 [.ref kx_forest, .ref kx_now_cables, .int v2, .int v3, .null] [] (I, L, ab_RR, n, nc, ns) res)) ∧ (¬ (I kx_now_cables 1) ≤ v3 → ((9 ≤ (I kx_forest 1) → (ab_E w (d + 1) mt_Forest_grow 174 [.ref kx_forest, .ref kx_now_cables, .int v2, .int v3, .null] [] (I, L, ab_RR, n, nc, ns) res)) ∧ (¬ 9 ≤ (I kx_forest 1) → ((vp_in v3 24) ∧ ((¬ ((v2 >>> ((I kx_now_cables_order v3.toNatClampNeg) &&& 31)) &&& 1) = 1 → (ab_E w (d + 1) mt_Forest_grow 168 [.ref kx_forest, .ref kx_now_cables, .int v2, .int v3, .int (I kx_now_cables_order v3.toNatClampNeg)] [] (I, L, ab_RR, n, nc, ns) res)) ∧ (((v2 >>> ((I kx_now_cables_order v3.toNatClampNeg) &&& 31)) &&& 1) = 1 → ((vp_in (I kx_now_cables_order v3.toNatClampNeg) 24) ∧ ∃ (r6 : Int32) (I7 : Nat → Nat → Int32), ab_C w d mt_K_unite [.ref kx_forest_piece, .int (I kx_now_cables_first (I kx_now_cables_order v3.toNatClampNeg).toNatClampNeg), .int (I kx_now_cables_second (I kx_now_cables_order v3.toNatClampNeg).toNatClampNeg)] (I, L, ab_RR, n, nc, ns) (.inl (some (.int r6)), (I7, L, ab_RR, n, nc, ns)) ∧ ((r6 = 0 → (ab_E w (d + 1) mt_Forest_grow 168 [.ref kx_forest, .ref kx_now_cables, .int v2, .int v3, .int (I kx_now_cables_order v3.toNatClampNeg)] [] (I7, L, ab_RR, n, nc, ns) res)) ∧ (¬ r6 = 0 → ((vp_in (I7 kx_forest 1) 9) ∧ ab_E w (d + 1) mt_Forest_grow 168 [.ref kx_forest, .ref kx_now_cables, .int v2, .int v3, .int (I kx_now_cables_order v3.toNatClampNeg)] [] ((ab_up (ab_up (ab_up (ab_up (ab_up I7 kx_forest_order (I7 kx_forest 1).toNatClampNeg (I kx_now_cables_order v3.toNatClampNeg)) kx_forest 1 ((I7 kx_forest 1) + 1)) kx_forest 2 ((I7 kx_forest 2) ||| ((1 : Int32) <<< ((I kx_now_cables_order v3.toNatClampNeg) &&& 31)))) kx_forest 3 ((I7 kx_forest 3) + (I7 kx_now_cables_price (I kx_now_cables_order v3.toNatClampNeg).toNatClampNeg))) kx_forest 4 ((I7 kx_forest 4) - 1)), L, ab_RR, n, nc, ns) res)))))))))))) : ab_E w (d + 1) mt_Forest_grow 46 [.ref kx_forest, .ref kx_now_cables, .int v2, .int v3, .null] [] (I, L, ab_RR, n, nc, ns) res := by
  refine ab_iload_n (i := 3) d_Forest_grow_46 rfl rfl ?_
  refine ab_aload_n (i := 1) d_Forest_grow_47 rfl rfl ?_
  refine ab_getI (ci := 1) (k := 1) d_Forest_grow_48 v_195 rfl (by decide) (by decide) rfl ?_
  refine ab_icmp_ge (tgt := 174) d_Forest_grow_51 (by decide) (fun c1 => ?_) (fun c1 => ?_)
  · have h := h.1 c1
    exact h
  · have h := h.2 c1
    refine ab_aload_n (i := 0) d_Forest_grow_54 rfl rfl ?_
    refine ab_getI (ci := 2) (k := 1) d_Forest_grow_55 v_331 rfl (by decide) (by decide) rfl ?_
    refine ab_aload_n (i := 0) d_Forest_grow_58 rfl rfl ?_
    refine ab_getR (ci := 2) (k := 0) (j := kx_forest_order) d_Forest_grow_59 v_328 rfl (by decide) (by decide) rfl r_kx_forest_0 ?_
    refine ab_alen (v := 9) d_Forest_grow_62 (by decide) (by decide) rfl ?_
    refine ab_icmp_ge (tgt := 174) d_Forest_grow_63 (by decide) (fun c2 => ?_) (fun c2 => ?_)
    · have h := h.1 c2
      exact h
    · have h := h.2 c2
      refine ab_aload_n (i := 1) d_Forest_grow_66 rfl rfl ?_
      refine ab_getR (ci := 1) (k := 7) (j := kx_now_cables_order) d_Forest_grow_67 v_231 rfl (by decide) (by decide) rfl r_kx_now_cables_7 ?_
      refine ab_iload_n (i := 3) d_Forest_grow_70 rfl rfl ?_
      have g3 := h.1; have h := h.2
      refine ab_iald d_Forest_grow_71 rfl rfl g3 ?_
      refine ab_istore (i := 4) d_Forest_grow_72 (by decide) (Or.inr rfl) ?_
      refine ab_iload_n (i := 2) d_Forest_grow_74 rfl rfl ?_
      refine ab_iload (i := 4) d_Forest_grow_75 rfl ?_
      refine ab_ishr d_Forest_grow_77 ?_
      refine ab_iconst (v := 1) d_Forest_grow_78 rfl ?_
      refine ab_iand d_Forest_grow_79 ?_
      refine ab_iconst (v := 1) d_Forest_grow_80 rfl ?_
      refine ab_icmp_ne (tgt := 168) d_Forest_grow_81 (by decide) (fun c4 => ?_) (fun c4 => ?_)
      · have h := h.1 c4
        exact h
      · have h := h.2 c4
        refine ab_aload_n (i := 0) d_Forest_grow_84 rfl rfl ?_
        refine ab_getR (ci := 2) (k := 5) (j := kx_forest_piece) d_Forest_grow_85 v_340 rfl (by decide) (by decide) rfl r_kx_forest_5 ?_
        refine ab_aload_n (i := 1) d_Forest_grow_88 rfl rfl ?_
        refine ab_getR (ci := 1) (k := 3) (j := kx_now_cables_first) d_Forest_grow_89 v_207 rfl (by decide) (by decide) rfl r_kx_now_cables_3 ?_
        refine ab_iload (i := 4) d_Forest_grow_92 rfl ?_
        have g5 := h.1; have h := h.2
        refine ab_iald d_Forest_grow_94 rfl rfl g5 ?_
        refine ab_aload_n (i := 1) d_Forest_grow_95 rfl rfl ?_
        refine ab_getR (ci := 1) (k := 4) (j := kx_now_cables_second) d_Forest_grow_96 v_214 rfl (by decide) (by decide) rfl r_kx_now_cables_4 ?_
        refine ab_iload (i := 4) d_Forest_grow_99 rfl ?_
        refine ab_iald d_Forest_grow_101 rfl rfl g5 ?_
        obtain ⟨r6, I7, hC, h⟩ := h
        refine ab_callS (me2 := mt_K_unite) (as := [.ref kx_forest_piece, .int (I kx_now_cables_first (I kx_now_cables_order v3.toNatClampNeg).toNatClampNeg), .int (I kx_now_cables_second (I kx_now_cables_order v3.toNatClampNeg).toNatClampNeg)]) (st := []) (rv := (some (.int r6))) (M2 := (I7, L, ab_RR, n, nc, ns)) d_Forest_grow_102 ce_K_unite ⟨v_445, Or.inr ⟨_, u_444⟩⟩ (Nat.le_of_ble_eq_true rfl) hC (Nat.le_refl _) (Nat.le_refl _) hc hs (fun j h9 => by cases h9) (fun _ _ => rfl) ?_
        show ab_E w (d + 1) mt_Forest_grow 105 [.ref kx_forest, .ref kx_now_cables, .int v2, .int v3, .int (I kx_now_cables_order v3.toNatClampNeg)] [.int r6] (I7, L, ab_RR, n, nc, ns) res
        refine ab_if_eq (tgt := 168) d_Forest_grow_105 (by decide) (fun c8 => ?_) (fun c8 => ?_)
        · have h := h.1 c8
          exact h
        · have h := h.2 c8
          refine ab_aload_n (i := 0) d_Forest_grow_108 rfl rfl ?_
          refine ab_getR (ci := 2) (k := 0) (j := kx_forest_order) d_Forest_grow_109 v_328 rfl (by decide) (by decide) rfl r_kx_forest_0 ?_
          refine ab_aload_n (i := 0) d_Forest_grow_112 rfl rfl ?_
          refine ab_getI (ci := 2) (k := 1) d_Forest_grow_113 v_331 rfl (by decide) (by decide) rfl ?_
          refine ab_iload (i := 4) d_Forest_grow_116 rfl ?_
          have g9 := h.1; have h := h.2
          refine ab_iast d_Forest_grow_118 rfl rfl g9 ?_
          refine ab_aload_n (i := 0) d_Forest_grow_119 rfl rfl ?_
          refine ab_dupr d_Forest_grow_120 ?_
          refine ab_getI (ci := 2) (k := 1) d_Forest_grow_121 v_331 rfl (by decide) (by decide) rfl ?_
          refine ab_iconst (v := 1) d_Forest_grow_124 rfl ?_
          refine ab_iadd d_Forest_grow_125 ?_
          refine ab_putI (ci := 2) (k := 1) d_Forest_grow_126 v_331 rfl (by decide) (by decide) rfl (Or.inl rfl) rfl rfl ?_
          refine ab_aload_n (i := 0) d_Forest_grow_129 rfl rfl ?_
          refine ab_dupr d_Forest_grow_130 ?_
          refine ab_getI (ci := 2) (k := 2) d_Forest_grow_131 v_334 rfl (by decide) (by decide) rfl ?_
          refine ab_iconst (v := 1) d_Forest_grow_134 rfl ?_
          refine ab_iload (i := 4) d_Forest_grow_135 rfl ?_
          refine ab_ishl d_Forest_grow_137 ?_
          refine ab_ior d_Forest_grow_138 ?_
          refine ab_putI (ci := 2) (k := 2) d_Forest_grow_139 v_334 rfl (by decide) (by decide) rfl (Or.inl rfl) rfl rfl ?_
          refine ab_aload_n (i := 0) d_Forest_grow_142 rfl rfl ?_
          refine ab_dupr d_Forest_grow_143 ?_
          refine ab_getI (ci := 2) (k := 3) d_Forest_grow_144 v_336 rfl (by decide) (by decide) rfl ?_
          refine ab_aload_n (i := 1) d_Forest_grow_147 rfl rfl ?_
          refine ab_getR (ci := 1) (k := 5) (j := kx_now_cables_price) d_Forest_grow_148 v_221 rfl (by decide) (by decide) rfl r_kx_now_cables_5 ?_
          refine ab_iload (i := 4) d_Forest_grow_151 rfl ?_
          refine ab_iald d_Forest_grow_153 rfl rfl g5 ?_
          refine ab_iadd d_Forest_grow_154 ?_
          refine ab_putI (ci := 2) (k := 3) d_Forest_grow_155 v_336 rfl (by decide) (by decide) rfl (Or.inl rfl) rfl rfl ?_
          refine ab_aload_n (i := 0) d_Forest_grow_158 rfl rfl ?_
          refine ab_dupr d_Forest_grow_159 ?_
          refine ab_getI (ci := 2) (k := 4) d_Forest_grow_160 v_338 rfl (by decide) (by decide) rfl ?_
          refine ab_iconst (v := 1) d_Forest_grow_163 rfl ?_
          refine ab_isub d_Forest_grow_164 ?_
          refine ab_putI (ci := 2) (k := 4) d_Forest_grow_165 v_338 rfl (by decide) (by decide) rfl (Or.inl rfl) rfl rfl ?_
          exact h
theorem q_Forest_grow_2_168 {w : ab_Wd} {d n nc ns : Nat} {I : Nat → Nat → Int32} {L : Nat → Nat → Int64} {res : ab_Re} (v2 : Int32) (v3 : Int32) (v4 : Int32) (hc : nc ≤ res.2.2.2.2.2.1) (hs : ns ≤ res.2.2.2.2.2.2)
    (h : ab_E w (d + 1) mt_Forest_grow 46 [.ref kx_forest, .ref kx_now_cables, .int v2, .int (v3 + 1), .null] [] (I, L, ab_RR, n, nc, ns) res) : ab_E w (d + 1) mt_Forest_grow 168 [.ref kx_forest, .ref kx_now_cables, .int v2, .int v3, .int v4] [] (I, L, ab_RR, n, nc, ns) res := by
  refine ab_iinc (i := 3) (v := (v3 + 1)) d_Forest_grow_168 rfl rfl (by decide) (Or.inr rfl) ?_
  refine ab_goto (tgt := 46) d_Forest_grow_171 (by decide) ?_
  refine ab_drop 4 ?_
  exact h
theorem q_Forest_grow_2_174 {w : ab_Wd} {d n nc ns : Nat} {I : Nat → Nat → Int32} {L : Nat → Nat → Int64} {res : ab_Re} (v2 : Int32) (v3 : Int32) (hc : nc ≤ res.2.2.2.2.2.1) (hs : ns ≤ res.2.2.2.2.2.2)
    (h : res = (.inl none, (I, L, ab_RR, n, nc, ns))) : ab_E w (d + 1) mt_Forest_grow 174 [.ref kx_forest, .ref kx_now_cables, .int v2, .int v3, .null] [] (I, L, ab_RR, n, nc, ns) res := by
  exact ab_vret d_Forest_grow_174 rfl h
