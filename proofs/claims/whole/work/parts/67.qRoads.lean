theorem d_Roads_apart_0 : decode (ab_bc mt_Roads_apart) 0 = .ok (.iload_n 2, 1) := by decide +kernel
theorem d_Roads_apart_1 : decode (ab_bc mt_Roads_apart) 1 = .ok (.iload_n 3, 1) := by decide +kernel
theorem d_Roads_apart_2 : decode (ab_bc mt_Roads_apart) 2 = .ok (.if_icmp .ne 5, 3) := by decide +kernel
theorem d_Roads_apart_5 : decode (ab_bc mt_Roads_apart) 5 = .ok (.iconst 0, 1) := by decide +kernel
theorem d_Roads_apart_6 : decode (ab_bc mt_Roads_apart) 6 = .ok (.ireturn, 1) := by decide +kernel
theorem d_Roads_apart_7 : decode (ab_bc mt_Roads_apart) 7 = .ok (.iconst 0, 1) := by decide +kernel
theorem d_Roads_apart_8 : decode (ab_bc mt_Roads_apart) 8 = .ok (.istore 4, 2) := by decide +kernel
theorem d_Roads_apart_10 : decode (ab_bc mt_Roads_apart) 10 = .ok (.iload 4, 2) := by decide +kernel
theorem d_Roads_apart_12 : decode (ab_bc mt_Roads_apart) 12 = .ok (.bipush 24, 2) := by decide +kernel
theorem d_Roads_apart_14 : decode (ab_bc mt_Roads_apart) 14 = .ok (.if_icmp .ge 17, 3) := by decide +kernel
theorem d_Roads_apart_17 : decode (ab_bc mt_Roads_apart) 17 = .ok (.aload_n 0, 1) := by decide +kernel
theorem d_Roads_apart_18 : decode (ab_bc mt_Roads_apart) 18 = .ok (.getfield 22, 3) := by decide +kernel
theorem d_Roads_apart_21 : decode (ab_bc mt_Roads_apart) 21 = .ok (.iload 4, 2) := by decide +kernel
theorem d_Roads_apart_23 : decode (ab_bc mt_Roads_apart) 23 = .ok (.iconst 0, 1) := by decide +kernel
theorem d_Roads_apart_24 : decode (ab_bc mt_Roads_apart) 24 = .ok (.iastore, 1) := by decide +kernel
theorem d_Roads_apart_25 : decode (ab_bc mt_Roads_apart) 25 = .ok (.iinc 4 1, 3) := by decide +kernel
theorem d_Roads_apart_28 : decode (ab_bc mt_Roads_apart) 28 = .ok (.goto (-18), 3) := by decide +kernel
theorem d_Roads_apart_31 : decode (ab_bc mt_Roads_apart) 31 = .ok (.iconst 0, 1) := by decide +kernel
theorem d_Roads_apart_32 : decode (ab_bc mt_Roads_apart) 32 = .ok (.istore 4, 2) := by decide +kernel
theorem d_Roads_apart_34 : decode (ab_bc mt_Roads_apart) 34 = .ok (.iload 4, 2) := by decide +kernel
theorem d_Roads_apart_36 : decode (ab_bc mt_Roads_apart) 36 = .ok (.bipush 24, 2) := by decide +kernel
theorem d_Roads_apart_38 : decode (ab_bc mt_Roads_apart) 38 = .ok (.if_icmp .ge 26, 3) := by decide +kernel
theorem d_Roads_apart_41 : decode (ab_bc mt_Roads_apart) 41 = .ok (.aload_n 0, 1) := by decide +kernel
theorem d_Roads_apart_42 : decode (ab_bc mt_Roads_apart) 42 = .ok (.aload_n 1, 1) := by decide +kernel
theorem d_Roads_apart_43 : decode (ab_bc mt_Roads_apart) 43 = .ok (.iload_n 2, 1) := by decide +kernel
theorem d_Roads_apart_44 : decode (ab_bc mt_Roads_apart) 44 = .ok (.iload_n 3, 1) := by decide +kernel
theorem d_Roads_apart_45 : decode (ab_bc mt_Roads_apart) 45 = .ok (.invokevirtual 84, 3) := by decide +kernel
theorem d_Roads_apart_48 : decode (ab_bc mt_Roads_apart) 48 = .ok (.ifCond .eq 16, 3) := by decide +kernel
theorem d_Roads_apart_51 : decode (ab_bc mt_Roads_apart) 51 = .ok (.aload_n 0, 1) := by decide +kernel
theorem d_Roads_apart_52 : decode (ab_bc mt_Roads_apart) 52 = .ok (.aload_n 1, 1) := by decide +kernel
theorem d_Roads_apart_53 : decode (ab_bc mt_Roads_apart) 53 = .ok (.iload_n 2, 1) := by decide +kernel
theorem d_Roads_apart_54 : decode (ab_bc mt_Roads_apart) 54 = .ok (.iload_n 3, 1) := by decide +kernel
theorem d_Roads_apart_55 : decode (ab_bc mt_Roads_apart) 55 = .ok (.invokevirtual 88, 3) := by decide +kernel
theorem d_Roads_apart_58 : decode (ab_bc mt_Roads_apart) 58 = .ok (.iinc 4 1, 3) := by decide +kernel
theorem d_Roads_apart_61 : decode (ab_bc mt_Roads_apart) 61 = .ok (.goto (-27), 3) := by decide +kernel
theorem d_Roads_apart_64 : decode (ab_bc mt_Roads_apart) 64 = .ok (.iload 4, 2) := by decide +kernel
theorem d_Roads_apart_66 : decode (ab_bc mt_Roads_apart) 66 = .ok (.ireturn, 1) := by decide +kernel
-- CableKeeper$Roads.apart(LCableKeeper$Cables;II)I over kx_roads, kx_now_cables
theorem q_Roads_apart_0 {w : ab_Wd} {d n nc ns : Nat} {I : Nat → Nat → Int32} {L : Nat → Nat → Int64} {res : ab_Re} (v2 : Int32) (v3 : Int32) (hc : nc ≤ res.2.2.2.2.2.1) (hs : ns ≤ res.2.2.2.2.2.2)
    (h : ((¬ v2 = v3 → (ab_E w (d + 1) mt_Roads_apart 10 [.ref kx_roads, .ref kx_now_cables, .int v2, .int v3, .int 0] [] (I, L, ab_RR, n, nc, ns) res)) ∧ (v2 = v3 → (res = (.inl (some (.int 0)), (I, L, ab_RR, n, nc, ns)))))) : ab_E w (d + 1) mt_Roads_apart 0 [.ref kx_roads, .ref kx_now_cables, .int v2, .int v3, .null] [] (I, L, ab_RR, n, nc, ns) res := by
  refine ab_iload_n (i := 2) d_Roads_apart_0 rfl rfl ?_
  refine ab_iload_n (i := 3) d_Roads_apart_1 rfl rfl ?_
  refine ab_icmp_ne (tgt := 7) d_Roads_apart_2 (by decide) (fun c1 => ?_) (fun c1 => ?_)
  · have h := h.1 c1
    refine ab_iconst (v := 0) d_Roads_apart_7 rfl ?_
    refine ab_istore (i := 4) d_Roads_apart_8 (by decide) (Or.inr rfl) ?_
    exact h
  · have h := h.2 c1
    refine ab_iconst (v := 0) d_Roads_apart_5 rfl ?_
    exact ab_iret (ty := .int) d_Roads_apart_6 rfl rfl h
theorem q_Roads_apart_10 {w : ab_Wd} {d n nc ns : Nat} {I : Nat → Nat → Int32} {L : Nat → Nat → Int64} {res : ab_Re} (v2 : Int32) (v3 : Int32) (v4 : Int32) (hc : nc ≤ res.2.2.2.2.2.1) (hs : ns ≤ res.2.2.2.2.2.2)
    (h : ((24 ≤ v4 → (ab_E w (d + 1) mt_Roads_apart 34 [.ref kx_roads, .ref kx_now_cables, .int v2, .int v3, .int 0] [] (I, L, ab_RR, n, nc, ns) res)) ∧ (¬ 24 ≤ v4 → ((vp_in v4 24) ∧ ab_E w (d + 1) mt_Roads_apart 10 [.ref kx_roads, .ref kx_now_cables, .int v2, .int v3, .int (v4 + 1)] [] ((ab_up I kx_roads_flow v4.toNatClampNeg 0), L, ab_RR, n, nc, ns) res)))) : ab_E w (d + 1) mt_Roads_apart 10 [.ref kx_roads, .ref kx_now_cables, .int v2, .int v3, .int v4] [] (I, L, ab_RR, n, nc, ns) res := by
  refine ab_iload (i := 4) d_Roads_apart_10 rfl ?_
  refine ab_bipush (v := 24) d_Roads_apart_12 rfl ?_
  refine ab_icmp_ge (tgt := 31) d_Roads_apart_14 (by decide) (fun c1 => ?_) (fun c1 => ?_)
  · have h := h.1 c1
    refine ab_iconst (v := 0) d_Roads_apart_31 rfl ?_
    refine ab_istore (i := 4) d_Roads_apart_32 (by decide) (Or.inr rfl) ?_
    exact h
  · have h := h.2 c1
    refine ab_aload_n (i := 0) d_Roads_apart_17 rfl rfl ?_
    refine ab_getR (ci := 5) (k := 3) (j := kx_roads_flow) d_Roads_apart_18 v_388 rfl (by decide) (by decide) rfl r_kx_roads_3 ?_
    refine ab_iload (i := 4) d_Roads_apart_21 rfl ?_
    refine ab_iconst (v := 0) d_Roads_apart_23 rfl ?_
    have g2 := h.1; have h := h.2
    refine ab_iast d_Roads_apart_24 rfl rfl g2 ?_
    refine ab_iinc (i := 4) (v := (v4 + 1)) d_Roads_apart_25 rfl rfl (by decide) (Or.inr rfl) ?_
    refine ab_goto (tgt := 10) d_Roads_apart_28 (by decide) ?_
    exact h
theorem q_Roads_apart_34 {w : ab_Wd} {d n nc ns : Nat} {I : Nat → Nat → Int32} {L : Nat → Nat → Int64} {res : ab_Re} (v2 : Int32) (v3 : Int32) (v4 : Int32) (hc : nc ≤ res.2.2.2.2.2.1) (hs : ns ≤ res.2.2.2.2.2.2)
    (h : ((24 ≤ v4 → (ab_E w (d + 1) mt_Roads_apart 64 [.ref kx_roads, .ref kx_now_cables, .int v2, .int v3, .int v4] [] (I, L, ab_RR, n, nc, ns) res)) ∧ (¬ 24 ≤ v4 → (∃ (r2 : Int32) (I3 : Nat → Nat → Int32), ab_C w d mt_Roads_reach [.ref kx_roads, .ref kx_now_cables, .int v2, .int v3] (I, L, ab_RR, n, nc, ns) (.inl (some (.int r2)), (I3, L, ab_RR, n, nc, ns)) ∧ ((r2 = 0 → (ab_E w (d + 1) mt_Roads_apart 64 [.ref kx_roads, .ref kx_now_cables, .int v2, .int v3, .int v4] [] (I3, L, ab_RR, n, nc, ns) res)) ∧ (¬ r2 = 0 → (∃ (I6 : Nat → Nat → Int32), ab_C w d mt_Roads_use [.ref kx_roads, .ref kx_now_cables, .int v2, .int v3] (I3, L, ab_RR, n, nc, ns) (.inl none, (I6, L, ab_RR, n, nc, ns)) ∧ ab_E w (d + 1) mt_Roads_apart 34 [.ref kx_roads, .ref kx_now_cables, .int v2, .int v3, .int (v4 + 1)] [] (I6, L, ab_RR, n, nc, ns) res))))))) : ab_E w (d + 1) mt_Roads_apart 34 [.ref kx_roads, .ref kx_now_cables, .int v2, .int v3, .int v4] [] (I, L, ab_RR, n, nc, ns) res := by
  refine ab_iload (i := 4) d_Roads_apart_34 rfl ?_
  refine ab_bipush (v := 24) d_Roads_apart_36 rfl ?_
  refine ab_icmp_ge (tgt := 64) d_Roads_apart_38 (by decide) (fun c1 => ?_) (fun c1 => ?_)
  · have h := h.1 c1
    exact h
  · have h := h.2 c1
    refine ab_aload_n (i := 0) d_Roads_apart_41 rfl rfl ?_
    refine ab_aload_n (i := 1) d_Roads_apart_42 rfl rfl ?_
    refine ab_iload_n (i := 2) d_Roads_apart_43 rfl rfl ?_
    refine ab_iload_n (i := 3) d_Roads_apart_44 rfl rfl ?_
    obtain ⟨r2, I3, hC, h⟩ := h
    refine ab_callV (me2 := mt_Roads_reach) (b := kx_roads) (as := [.ref kx_now_cables, .int v2, .int v3]) (st := []) (rv := (some (.int r2))) (M2 := (I3, L, ab_RR, n, nc, ns)) d_Roads_apart_45 ce_Roads_reach v_1159 v_1161 v_52 (by decide) rfl (Nat.le_of_ble_eq_true rfl) hC (Nat.le_refl _) (Nat.le_refl _) hc hs (fun j h9 => by cases h9) (fun _ _ => rfl) ?_
    show ab_E w (d + 1) mt_Roads_apart 48 [.ref kx_roads, .ref kx_now_cables, .int v2, .int v3, .int v4] [.int r2] (I3, L, ab_RR, n, nc, ns) res
    refine ab_if_eq (tgt := 64) d_Roads_apart_48 (by decide) (fun c4 => ?_) (fun c4 => ?_)
    · have h := h.1 c4
      exact h
    · have h := h.2 c4
      refine ab_aload_n (i := 0) d_Roads_apart_51 rfl rfl ?_
      refine ab_aload_n (i := 1) d_Roads_apart_52 rfl rfl ?_
      refine ab_iload_n (i := 2) d_Roads_apart_53 rfl rfl ?_
      refine ab_iload_n (i := 3) d_Roads_apart_54 rfl rfl ?_
      obtain ⟨I6, hC, h⟩ := h
      refine ab_callV (me2 := mt_Roads_use) (b := kx_roads) (as := [.ref kx_now_cables, .int v2, .int v3]) (st := []) (rv := none) (M2 := (I6, L, ab_RR, n, nc, ns)) d_Roads_apart_55 ce_Roads_use v_1167 v_1169 v_54 (by decide) rfl (Nat.le_of_ble_eq_true rfl) hC (Nat.le_refl _) (Nat.le_refl _) hc hs (fun j h9 => by cases h9) (fun _ _ => rfl) ?_
      show ab_E w (d + 1) mt_Roads_apart 58 [.ref kx_roads, .ref kx_now_cables, .int v2, .int v3, .int v4] [] (I6, L, ab_RR, n, nc, ns) res
      refine ab_iinc (i := 4) (v := (v4 + 1)) d_Roads_apart_58 rfl rfl (by decide) (Or.inr rfl) ?_
      refine ab_goto (tgt := 34) d_Roads_apart_61 (by decide) ?_
      exact h
theorem q_Roads_apart_64 {w : ab_Wd} {d n nc ns : Nat} {I : Nat → Nat → Int32} {L : Nat → Nat → Int64} {res : ab_Re} (v2 : Int32) (v3 : Int32) (v4 : Int32) (hc : nc ≤ res.2.2.2.2.2.1) (hs : ns ≤ res.2.2.2.2.2.2)
    (h : res = (.inl (some (.int v4)), (I, L, ab_RR, n, nc, ns))) : ab_E w (d + 1) mt_Roads_apart 64 [.ref kx_roads, .ref kx_now_cables, .int v2, .int v3, .int v4] [] (I, L, ab_RR, n, nc, ns) res := by
  refine ab_iload (i := 4) d_Roads_apart_64 rfl ?_
  exact ab_iret (ty := .int) d_Roads_apart_66 rfl rfl h
theorem d_Roads_shortest_0 : decode (ab_bc mt_Roads_shortest) 0 = .ok (.aload_n 0, 1) := by decide +kernel
theorem d_Roads_shortest_1 : decode (ab_bc mt_Roads_shortest) 1 = .ok (.aload_n 1, 1) := by decide +kernel
theorem d_Roads_shortest_2 : decode (ab_bc mt_Roads_shortest) 2 = .ok (.invokevirtual 65, 3) := by decide +kernel
theorem d_Roads_shortest_5 : decode (ab_bc mt_Roads_shortest) 5 = .ok (.aload_n 0, 1) := by decide +kernel
theorem d_Roads_shortest_6 : decode (ab_bc mt_Roads_shortest) 6 = .ok (.iload_n 2, 1) := by decide +kernel
theorem d_Roads_shortest_7 : decode (ab_bc mt_Roads_shortest) 7 = .ok (.iload_n 3, 1) := by decide +kernel
theorem d_Roads_shortest_8 : decode (ab_bc mt_Roads_shortest) 8 = .ok (.invokevirtual 62, 3) := by decide +kernel
theorem d_Roads_shortest_11 : decode (ab_bc mt_Roads_shortest) 11 = .ok (.invokestatic 69, 3) := by decide +kernel
theorem d_Roads_shortest_14 : decode (ab_bc mt_Roads_shortest) 14 = .ok (.ireturn, 1) := by decide +kernel
-- CableKeeper$Roads.shortest(LCableKeeper$Cables;II)I over kx_roads, kx_now_cables
theorem q_Roads_shortest_0 {w : ab_Wd} {d n nc ns : Nat} {I : Nat → Nat → Int32} {L : Nat → Nat → Int64} {res : ab_Re} (v2 : Int32) (v3 : Int32) (hc : nc ≤ res.2.2.2.2.2.1) (hs : ns ≤ res.2.2.2.2.2.2)
    (h : ∃ (I2 : Nat → Nat → Int32), ab_C w d mt_Roads_measure [.ref kx_roads, .ref kx_now_cables] (I, L, ab_RR, n, nc, ns) (.inl none, (I2, L, ab_RR, n, nc, ns)) ∧ ∃ (r3 : Int32), ab_C w d mt_Roads_length [.ref kx_roads, .int v2, .int v3] (I2, L, ab_RR, n, nc, ns) (.inl (some (.int r3)), (I2, L, ab_RR, n, nc, ns)) ∧ ∃ (r4 : Int32), ab_C w d mt_Roads_orNone [.int r3] (I2, L, ab_RR, n, nc, ns) (.inl (some (.int r4)), (I2, L, ab_RR, n, nc, ns)) ∧ res = (.inl (some (.int r4)), (I2, L, ab_RR, n, nc, ns))) : ab_E w (d + 1) mt_Roads_shortest 0 [.ref kx_roads, .ref kx_now_cables, .int v2, .int v3] [] (I, L, ab_RR, n, nc, ns) res := by
  refine ab_aload_n (i := 0) d_Roads_shortest_0 rfl rfl ?_
  refine ab_aload_n (i := 1) d_Roads_shortest_1 rfl rfl ?_
  obtain ⟨I2, hC, h⟩ := h
  refine ab_callV (me2 := mt_Roads_measure) (b := kx_roads) (as := [.ref kx_now_cables]) (st := []) (rv := none) (M2 := (I2, L, ab_RR, n, nc, ns)) d_Roads_shortest_2 ce_Roads_measure v_1151 v_1030 v_1031 (by decide) rfl (Nat.le_of_ble_eq_true rfl) hC (Nat.le_refl _) (Nat.le_refl _) hc hs (fun j h9 => by cases h9) (fun _ _ => rfl) ?_
  show ab_E w (d + 1) mt_Roads_shortest 5 [.ref kx_roads, .ref kx_now_cables, .int v2, .int v3] [] (I2, L, ab_RR, n, nc, ns) res
  refine ab_aload_n (i := 0) d_Roads_shortest_5 rfl rfl ?_
  refine ab_iload_n (i := 2) d_Roads_shortest_6 rfl rfl ?_
  refine ab_iload_n (i := 3) d_Roads_shortest_7 rfl rfl ?_
  obtain ⟨r3, hC, h⟩ := h
  refine ab_callV (me2 := mt_Roads_length) (b := kx_roads) (as := [.int v2, .int v3]) (st := []) (rv := (some (.int r3))) (M2 := (I2, L, ab_RR, n, nc, ns)) d_Roads_shortest_8 ce_Roads_length v_1044 v_1045 v_1046 (by decide) rfl (Nat.le_of_ble_eq_true rfl) hC (Nat.le_refl _) (Nat.le_refl _) hc hs (fun j h9 => by cases h9) (fun _ _ => rfl) ?_
  show ab_E w (d + 1) mt_Roads_shortest 11 [.ref kx_roads, .ref kx_now_cables, .int v2, .int v3] [.int r3] (I2, L, ab_RR, n, nc, ns) res
  obtain ⟨r4, hC, h⟩ := h
  refine ab_callS (me2 := mt_Roads_orNone) (as := [.int r3]) (st := []) (rv := (some (.int r4))) (M2 := (I2, L, ab_RR, n, nc, ns)) d_Roads_shortest_11 ce_Roads_orNone ⟨v_1153, Or.inl v_1152⟩ (Nat.le_of_ble_eq_true rfl) hC (Nat.le_refl _) (Nat.le_refl _) hc hs (fun j h9 => by cases h9) (fun _ _ => rfl) ?_
  show ab_E w (d + 1) mt_Roads_shortest 14 [.ref kx_roads, .ref kx_now_cables, .int v2, .int v3] [.int r4] (I2, L, ab_RR, n, nc, ns) res
  exact ab_iret (ty := .int) d_Roads_shortest_14 rfl rfl h
theorem d_Roads_joining_0 : decode (ab_bc mt_Roads_joining) 0 = .ok (.iload_n 2, 1) := by decide +kernel
theorem d_Roads_joining_1 : decode (ab_bc mt_Roads_joining) 1 = .ok (.invokestatic 73, 3) := by decide +kernel
theorem d_Roads_joining_4 : decode (ab_bc mt_Roads_joining) 4 = .ok (.istore_n 3, 1) := by decide +kernel
theorem d_Roads_joining_5 : decode (ab_bc mt_Roads_joining) 5 = .ok (.iload_n 3, 1) := by decide +kernel
theorem d_Roads_joining_6 : decode (ab_bc mt_Roads_joining) 6 = .ok (.iconst 2, 1) := by decide +kernel
theorem d_Roads_joining_7 : decode (ab_bc mt_Roads_joining) 7 = .ok (.if_icmp .ge 5, 3) := by decide +kernel
theorem d_Roads_joining_10 : decode (ab_bc mt_Roads_joining) 10 = .ok (.iconst 0, 1) := by decide +kernel
theorem d_Roads_joining_11 : decode (ab_bc mt_Roads_joining) 11 = .ok (.ireturn, 1) := by decide +kernel
theorem d_Roads_joining_12 : decode (ab_bc mt_Roads_joining) 12 = .ok (.aload_n 0, 1) := by decide +kernel
theorem d_Roads_joining_13 : decode (ab_bc mt_Roads_joining) 13 = .ok (.aload_n 1, 1) := by decide +kernel
theorem d_Roads_joining_14 : decode (ab_bc mt_Roads_joining) 14 = .ok (.invokevirtual 65, 3) := by decide +kernel
theorem d_Roads_joining_17 : decode (ab_bc mt_Roads_joining) 17 = .ok (.ldc 37, 2) := by decide +kernel
theorem d_Roads_joining_19 : decode (ab_bc mt_Roads_joining) 19 = .ok (.istore 4, 2) := by decide +kernel
theorem d_Roads_joining_21 : decode (ab_bc mt_Roads_joining) 21 = .ok (.iconst 0, 1) := by decide +kernel
theorem d_Roads_joining_22 : decode (ab_bc mt_Roads_joining) 22 = .ok (.istore 5, 2) := by decide +kernel
theorem d_Roads_joining_24 : decode (ab_bc mt_Roads_joining) 24 = .ok (.iload 5, 2) := by decide +kernel
theorem d_Roads_joining_26 : decode (ab_bc mt_Roads_joining) 26 = .ok (.iconst 1, 1) := by decide +kernel
theorem d_Roads_joining_27 : decode (ab_bc mt_Roads_joining) 27 = .ok (.aload_n 0, 1) := by decide +kernel
theorem d_Roads_joining_28 : decode (ab_bc mt_Roads_joining) 28 = .ok (.getfield 9, 3) := by decide +kernel
theorem d_Roads_joining_31 : decode (ab_bc mt_Roads_joining) 31 = .ok (.ishl, 1) := by decide +kernel
theorem d_Roads_joining_32 : decode (ab_bc mt_Roads_joining) 32 = .ok (.if_icmp .ge 42, 3) := by decide +kernel
theorem d_Roads_joining_35 : decode (ab_bc mt_Roads_joining) 35 = .ok (.iload 5, 2) := by decide +kernel
theorem d_Roads_joining_37 : decode (ab_bc mt_Roads_joining) 37 = .ok (.iload_n 2, 1) := by decide +kernel
theorem d_Roads_joining_38 : decode (ab_bc mt_Roads_joining) 38 = .ok (.iand, 1) := by decide +kernel
theorem d_Roads_joining_39 : decode (ab_bc mt_Roads_joining) 39 = .ok (.ifCond .ne 29, 3) := by decide +kernel
theorem d_Roads_joining_42 : decode (ab_bc mt_Roads_joining) 42 = .ok (.iload 5, 2) := by decide +kernel
theorem d_Roads_joining_44 : decode (ab_bc mt_Roads_joining) 44 = .ok (.invokestatic 73, 3) := by decide +kernel
theorem d_Roads_joining_47 : decode (ab_bc mt_Roads_joining) 47 = .ok (.iload_n 3, 1) := by decide +kernel
theorem d_Roads_joining_48 : decode (ab_bc mt_Roads_joining) 48 = .ok (.iconst 2, 1) := by decide +kernel
theorem d_Roads_joining_49 : decode (ab_bc mt_Roads_joining) 49 = .ok (.isub, 1) := by decide +kernel
theorem d_Roads_joining_50 : decode (ab_bc mt_Roads_joining) 50 = .ok (.if_icmp .gt 18, 3) := by decide +kernel
theorem d_Roads_joining_53 : decode (ab_bc mt_Roads_joining) 53 = .ok (.iload 4, 2) := by decide +kernel
theorem d_Roads_joining_55 : decode (ab_bc mt_Roads_joining) 55 = .ok (.aload_n 0, 1) := by decide +kernel
theorem d_Roads_joining_56 : decode (ab_bc mt_Roads_joining) 56 = .ok (.iload_n 2, 1) := by decide +kernel
theorem d_Roads_joining_57 : decode (ab_bc mt_Roads_joining) 57 = .ok (.iload 5, 2) := by decide +kernel
theorem d_Roads_joining_59 : decode (ab_bc mt_Roads_joining) 59 = .ok (.ior, 1) := by decide +kernel
theorem d_Roads_joining_60 : decode (ab_bc mt_Roads_joining) 60 = .ok (.invokevirtual 78, 3) := by decide +kernel
theorem d_Roads_joining_63 : decode (ab_bc mt_Roads_joining) 63 = .ok (.invokestatic 28, 3) := by decide +kernel
theorem d_Roads_joining_66 : decode (ab_bc mt_Roads_joining) 66 = .ok (.istore 4, 2) := by decide +kernel
theorem d_Roads_joining_68 : decode (ab_bc mt_Roads_joining) 68 = .ok (.iinc 5 1, 3) := by decide +kernel
theorem d_Roads_joining_71 : decode (ab_bc mt_Roads_joining) 71 = .ok (.goto (-47), 3) := by decide +kernel
theorem d_Roads_joining_74 : decode (ab_bc mt_Roads_joining) 74 = .ok (.iload 4, 2) := by decide +kernel
theorem d_Roads_joining_76 : decode (ab_bc mt_Roads_joining) 76 = .ok (.invokestatic 69, 3) := by decide +kernel
theorem d_Roads_joining_79 : decode (ab_bc mt_Roads_joining) 79 = .ok (.ireturn, 1) := by decide +kernel
-- CableKeeper$Roads.joining(LCableKeeper$Cables;I)I over kx_roads, kx_now_cables
theorem q_Roads_joining_0 {w : ab_Wd} {d n nc ns : Nat} {I : Nat → Nat → Int32} {L : Nat → Nat → Int64} {res : ab_Re} (v2 : Int32) (hc : nc ≤ res.2.2.2.2.2.1) (hs : ns ≤ res.2.2.2.2.2.2)
    (h : ∃ (r1 : Int32), ab_C w d mt_Integer_bitCount [.int v2] (I, L, ab_RR, n, nc, ns) (.inl (some (.int r1)), (I, L, ab_RR, n, nc, ns)) ∧ ((2 ≤ r1 → (∃ (I4 : Nat → Nat → Int32), ab_C w d mt_Roads_measure [.ref kx_roads, .ref kx_now_cables] (I, L, ab_RR, n, nc, ns) (.inl none, (I4, L, ab_RR, n, nc, ns)) ∧ ab_E w (d + 1) mt_Roads_joining 24 [.ref kx_roads, .ref kx_now_cables, .int v2, .int r1, .int 1000000, .int 0] [] (I4, L, ab_RR, n, nc, ns) res)) ∧ (¬ 2 ≤ r1 → (res = (.inl (some (.int 0)), (I, L, ab_RR, n, nc, ns)))))) : ab_E w (d + 1) mt_Roads_joining 0 [.ref kx_roads, .ref kx_now_cables, .int v2, .null, .null, .null] [] (I, L, ab_RR, n, nc, ns) res := by
  refine ab_iload_n (i := 2) d_Roads_joining_0 rfl rfl ?_
  obtain ⟨r1, hC, h⟩ := h
  refine ab_callS (me2 := mt_Integer_bitCount) (as := [.int v2]) (st := []) (rv := (some (.int r1))) (M2 := (I, L, ab_RR, n, nc, ns)) d_Roads_joining_1 ce_Integer_bitCount ⟨v_965, Or.inl v_1254⟩ (Nat.le_of_ble_eq_true rfl) hC (Nat.le_refl _) (Nat.le_refl _) hc hs (fun j h9 => by cases h9) (fun _ _ => rfl) ?_
  show ab_E w (d + 1) mt_Roads_joining 4 [.ref kx_roads, .ref kx_now_cables, .int v2, .null, .null, .null] [.int r1] (I, L, ab_RR, n, nc, ns) res
  refine ab_istore_n (i := 3) d_Roads_joining_4 rfl (by decide) (Or.inr rfl) ?_
  refine ab_iload_n (i := 3) d_Roads_joining_5 rfl rfl ?_
  refine ab_iconst (v := 2) d_Roads_joining_6 rfl ?_
  refine ab_icmp_ge (tgt := 12) d_Roads_joining_7 (by decide) (fun c2 => ?_) (fun c2 => ?_)
  · have h := h.1 c2
    refine ab_aload_n (i := 0) d_Roads_joining_12 rfl rfl ?_
    refine ab_aload_n (i := 1) d_Roads_joining_13 rfl rfl ?_
    obtain ⟨I4, hC, h⟩ := h
    refine ab_callV (me2 := mt_Roads_measure) (b := kx_roads) (as := [.ref kx_now_cables]) (st := []) (rv := none) (M2 := (I4, L, ab_RR, n, nc, ns)) d_Roads_joining_14 ce_Roads_measure v_1151 v_1030 v_1031 (by decide) rfl (Nat.le_of_ble_eq_true rfl) hC (Nat.le_refl _) (Nat.le_refl _) hc hs (fun j h9 => by cases h9) (fun _ _ => rfl) ?_
    show ab_E w (d + 1) mt_Roads_joining 17 [.ref kx_roads, .ref kx_now_cables, .int v2, .int r1, .null, .null] [] (I4, L, ab_RR, n, nc, ns) res
    refine ab_ldc (v := 1000000) d_Roads_joining_17 v_1033 ?_
    refine ab_istore (i := 4) d_Roads_joining_19 (by decide) (Or.inr rfl) ?_
    refine ab_iconst (v := 0) d_Roads_joining_21 rfl ?_
    refine ab_istore (i := 5) d_Roads_joining_22 (by decide) (Or.inr rfl) ?_
    exact h
  · have h := h.2 c2
    refine ab_iconst (v := 0) d_Roads_joining_10 rfl ?_
    exact ab_iret (ty := .int) d_Roads_joining_11 rfl rfl h
theorem q_Roads_joining_24 {w : ab_Wd} {d n nc ns : Nat} {I : Nat → Nat → Int32} {L : Nat → Nat → Int64} {res : ab_Re} (v2 : Int32) (v3 : Int32) (v4 : Int32) (v5 : Int32) (hc : nc ≤ res.2.2.2.2.2.1) (hs : ns ≤ res.2.2.2.2.2.2)
    (h : ((((1 : Int32) <<< ((I kx_roads 0) &&& 31)) ≤ v5 → (∃ (r2 : Int32), ab_C w d mt_Roads_orNone [.int v4] (I, L, ab_RR, n, nc, ns) (.inl (some (.int r2)), (I, L, ab_RR, n, nc, ns)) ∧ res = (.inl (some (.int r2)), (I, L, ab_RR, n, nc, ns)))) ∧ (¬ ((1 : Int32) <<< ((I kx_roads 0) &&& 31)) ≤ v5 → ((¬ (v5 &&& v2) = 0 → (ab_E w (d + 1) mt_Roads_joining 68 [.ref kx_roads, .ref kx_now_cables, .int v2, .int v3, .int v4, .int v5] [] (I, L, ab_RR, n, nc, ns) res)) ∧ ((v5 &&& v2) = 0 → (∃ (r4 : Int32), ab_C w d mt_Integer_bitCount [.int v5] (I, L, ab_RR, n, nc, ns) (.inl (some (.int r4)), (I, L, ab_RR, n, nc, ns)) ∧ (((v3 - 2) < r4 → (ab_E w (d + 1) mt_Roads_joining 68 [.ref kx_roads, .ref kx_now_cables, .int v2, .int v3, .int v4, .int v5] [] (I, L, ab_RR, n, nc, ns) res)) ∧ (¬ (v3 - 2) < r4 → (∃ (r6 : Int32) (I7 : Nat → Nat → Int32), ab_C w d mt_Roads_spread [.ref kx_roads, .int (v2 ||| v5)] (I, L, ab_RR, n, nc, ns) (.inl (some (.int r6)), (I7, L, ab_RR, n, nc, ns)) ∧ ab_E w (d + 1) mt_Roads_joining 68 [.ref kx_roads, .ref kx_now_cables, .int v2, .int v3, .int (ab_min32 v4 r6), .int v5] [] (I7, L, ab_RR, n, nc, ns) res))))))))) : ab_E w (d + 1) mt_Roads_joining 24 [.ref kx_roads, .ref kx_now_cables, .int v2, .int v3, .int v4, .int v5] [] (I, L, ab_RR, n, nc, ns) res := by
  refine ab_iload (i := 5) d_Roads_joining_24 rfl ?_
  refine ab_iconst (v := 1) d_Roads_joining_26 rfl ?_
  refine ab_aload_n (i := 0) d_Roads_joining_27 rfl rfl ?_
  refine ab_getI (ci := 5) (k := 0) d_Roads_joining_28 v_385 rfl (by decide) (by decide) rfl ?_
  refine ab_ishl d_Roads_joining_31 ?_
  refine ab_icmp_ge (tgt := 74) d_Roads_joining_32 (by decide) (fun c1 => ?_) (fun c1 => ?_)
  · have h := h.1 c1
    refine ab_iload (i := 4) d_Roads_joining_74 rfl ?_
    obtain ⟨r2, hC, h⟩ := h
    refine ab_callS (me2 := mt_Roads_orNone) (as := [.int v4]) (st := []) (rv := (some (.int r2))) (M2 := (I, L, ab_RR, n, nc, ns)) d_Roads_joining_76 ce_Roads_orNone ⟨v_1153, Or.inl v_1152⟩ (Nat.le_of_ble_eq_true rfl) hC (Nat.le_refl _) (Nat.le_refl _) hc hs (fun j h9 => by cases h9) (fun _ _ => rfl) ?_
    show ab_E w (d + 1) mt_Roads_joining 79 [.ref kx_roads, .ref kx_now_cables, .int v2, .int v3, .int v4, .int v5] [.int r2] (I, L, ab_RR, n, nc, ns) res
    exact ab_iret (ty := .int) d_Roads_joining_79 rfl rfl h
  · have h := h.2 c1
    refine ab_iload (i := 5) d_Roads_joining_35 rfl ?_
    refine ab_iload_n (i := 2) d_Roads_joining_37 rfl rfl ?_
    refine ab_iand d_Roads_joining_38 ?_
    refine ab_if_ne (tgt := 68) d_Roads_joining_39 (by decide) (fun c3 => ?_) (fun c3 => ?_)
    · have h := h.1 c3
      exact h
    · have h := h.2 c3
      refine ab_iload (i := 5) d_Roads_joining_42 rfl ?_
      obtain ⟨r4, hC, h⟩ := h
      refine ab_callS (me2 := mt_Integer_bitCount) (as := [.int v5]) (st := []) (rv := (some (.int r4))) (M2 := (I, L, ab_RR, n, nc, ns)) d_Roads_joining_44 ce_Integer_bitCount ⟨v_965, Or.inl v_1254⟩ (Nat.le_of_ble_eq_true rfl) hC (Nat.le_refl _) (Nat.le_refl _) hc hs (fun j h9 => by cases h9) (fun _ _ => rfl) ?_
      show ab_E w (d + 1) mt_Roads_joining 47 [.ref kx_roads, .ref kx_now_cables, .int v2, .int v3, .int v4, .int v5] [.int r4] (I, L, ab_RR, n, nc, ns) res
      refine ab_iload_n (i := 3) d_Roads_joining_47 rfl rfl ?_
      refine ab_iconst (v := 2) d_Roads_joining_48 rfl ?_
      refine ab_isub d_Roads_joining_49 ?_
      refine ab_icmp_gt (tgt := 68) d_Roads_joining_50 (by decide) (fun c5 => ?_) (fun c5 => ?_)
      · have h := h.1 c5
        exact h
      · have h := h.2 c5
        refine ab_iload (i := 4) d_Roads_joining_53 rfl ?_
        refine ab_aload_n (i := 0) d_Roads_joining_55 rfl rfl ?_
        refine ab_iload_n (i := 2) d_Roads_joining_56 rfl rfl ?_
        refine ab_iload (i := 5) d_Roads_joining_57 rfl ?_
        refine ab_ior d_Roads_joining_59 ?_
        obtain ⟨r6, I7, hC, h⟩ := h
        refine ab_callV (me2 := mt_Roads_spread) (b := kx_roads) (as := [.int (v2 ||| v5)]) (st := [.int v4]) (rv := (some (.int r6))) (M2 := (I7, L, ab_RR, n, nc, ns)) d_Roads_joining_60 ce_Roads_spread v_1255 v_1257 v_59 (by decide) rfl (Nat.le_of_ble_eq_true rfl) hC (Nat.le_refl _) (Nat.le_refl _) hc hs (fun j h9 => by cases h9) (fun _ _ => rfl) ?_
        show ab_E w (d + 1) mt_Roads_joining 63 [.ref kx_roads, .ref kx_now_cables, .int v2, .int v3, .int v4, .int v5] [.int r6, .int v4] (I7, L, ab_RR, n, nc, ns) res
        refine ab_min d_Roads_joining_63 v_1038 v_448 v_150 v_449 (Nat.succ_le_succ (Nat.zero_le _)) (Nat.le_of_ble_eq_true rfl) hc hs ?_
        refine ab_istore (i := 4) d_Roads_joining_66 (by decide) (Or.inr rfl) ?_
        exact h
theorem q_Roads_joining_68 {w : ab_Wd} {d n nc ns : Nat} {I : Nat → Nat → Int32} {L : Nat → Nat → Int64} {res : ab_Re} (v2 : Int32) (v3 : Int32) (v4 : Int32) (v5 : Int32) (hc : nc ≤ res.2.2.2.2.2.1) (hs : ns ≤ res.2.2.2.2.2.2)
    (h : ab_E w (d + 1) mt_Roads_joining 24 [.ref kx_roads, .ref kx_now_cables, .int v2, .int v3, .int v4, .int (v5 + 1)] [] (I, L, ab_RR, n, nc, ns) res) : ab_E w (d + 1) mt_Roads_joining 68 [.ref kx_roads, .ref kx_now_cables, .int v2, .int v3, .int v4, .int v5] [] (I, L, ab_RR, n, nc, ns) res := by
  refine ab_iinc (i := 5) (v := (v5 + 1)) d_Roads_joining_68 rfl rfl (by decide) (Or.inr rfl) ?_
  refine ab_goto (tgt := 24) d_Roads_joining_71 (by decide) ?_
  exact h
theorem d_Roads_length_0 : decode (ab_bc mt_Roads_length) 0 = .ok (.aload_n 0, 1) := by decide +kernel
theorem d_Roads_length_1 : decode (ab_bc mt_Roads_length) 1 = .ok (.getfield 15, 3) := by decide +kernel
theorem d_Roads_length_4 : decode (ab_bc mt_Roads_length) 4 = .ok (.iload_n 1, 1) := by decide +kernel
theorem d_Roads_length_5 : decode (ab_bc mt_Roads_length) 5 = .ok (.bipush 10, 2) := by decide +kernel
theorem d_Roads_length_7 : decode (ab_bc mt_Roads_length) 7 = .ok (.imul, 1) := by decide +kernel
theorem d_Roads_length_8 : decode (ab_bc mt_Roads_length) 8 = .ok (.iload_n 2, 1) := by decide +kernel
theorem d_Roads_length_9 : decode (ab_bc mt_Roads_length) 9 = .ok (.iadd, 1) := by decide +kernel
theorem d_Roads_length_10 : decode (ab_bc mt_Roads_length) 10 = .ok (.iaload, 1) := by decide +kernel
theorem d_Roads_length_11 : decode (ab_bc mt_Roads_length) 11 = .ok (.ireturn, 1) := by decide +kernel
-- CableKeeper$Roads.length(II)I over kx_roads
theorem q_Roads_length_0 {w : ab_Wd} {d n nc ns : Nat} {I : Nat → Nat → Int32} {L : Nat → Nat → Int64} {res : ab_Re} (v1 : Int32) (v2 : Int32) (hc : nc ≤ res.2.2.2.2.2.1) (hs : ns ≤ res.2.2.2.2.2.2)
    (h : (vp_in ((v1 * 10) + v2) 100) ∧ res = (.inl (some (.int (I kx_roads_lengths ((v1 * 10) + v2).toNatClampNeg))), (I, L, ab_RR, n, nc, ns))) : ab_E w d mt_Roads_length 0 [.ref kx_roads, .int v1, .int v2] [] (I, L, ab_RR, n, nc, ns) res := by
  refine ab_aload_n (i := 0) d_Roads_length_0 rfl rfl ?_
  refine ab_getR (ci := 5) (k := 1) (j := kx_roads_lengths) d_Roads_length_1 v_386 rfl (by decide) (by decide) rfl r_kx_roads_1 ?_
  refine ab_iload_n (i := 1) d_Roads_length_4 rfl rfl ?_
  refine ab_bipush (v := 10) d_Roads_length_5 rfl ?_
  refine ab_imul d_Roads_length_7 ?_
  refine ab_iload_n (i := 2) d_Roads_length_8 rfl rfl ?_
  refine ab_iadd d_Roads_length_9 ?_
  have g1 := h.1; have h := h.2
  refine ab_iald d_Roads_length_10 rfl rfl g1 ?_
  exact ab_iret (ty := .int) d_Roads_length_11 rfl rfl h
theorem d_Roads_measure_0 : decode (ab_bc mt_Roads_measure) 0 = .ok (.aload_n 0, 1) := by decide +kernel
theorem d_Roads_measure_1 : decode (ab_bc mt_Roads_measure) 1 = .ok (.aload_n 1, 1) := by decide +kernel
theorem d_Roads_measure_2 : decode (ab_bc mt_Roads_measure) 2 = .ok (.getfield 34, 3) := by decide +kernel
theorem d_Roads_measure_5 : decode (ab_bc mt_Roads_measure) 5 = .ok (.putfield 9, 3) := by decide +kernel
theorem d_Roads_measure_8 : decode (ab_bc mt_Roads_measure) 8 = .ok (.iconst 0, 1) := by decide +kernel
theorem d_Roads_measure_9 : decode (ab_bc mt_Roads_measure) 9 = .ok (.istore_n 2, 1) := by decide +kernel
theorem d_Roads_measure_10 : decode (ab_bc mt_Roads_measure) 10 = .ok (.iload_n 2, 1) := by decide +kernel
theorem d_Roads_measure_11 : decode (ab_bc mt_Roads_measure) 11 = .ok (.aload_n 0, 1) := by decide +kernel
theorem d_Roads_measure_12 : decode (ab_bc mt_Roads_measure) 12 = .ok (.getfield 15, 3) := by decide +kernel
theorem d_Roads_measure_15 : decode (ab_bc mt_Roads_measure) 15 = .ok (.arraylength, 1) := by decide +kernel
theorem d_Roads_measure_16 : decode (ab_bc mt_Roads_measure) 16 = .ok (.if_icmp .ge 17, 3) := by decide +kernel
theorem d_Roads_measure_19 : decode (ab_bc mt_Roads_measure) 19 = .ok (.aload_n 0, 1) := by decide +kernel
theorem d_Roads_measure_20 : decode (ab_bc mt_Roads_measure) 20 = .ok (.getfield 15, 3) := by decide +kernel
theorem d_Roads_measure_23 : decode (ab_bc mt_Roads_measure) 23 = .ok (.iload_n 2, 1) := by decide +kernel
theorem d_Roads_measure_24 : decode (ab_bc mt_Roads_measure) 24 = .ok (.ldc 37, 2) := by decide +kernel
theorem d_Roads_measure_26 : decode (ab_bc mt_Roads_measure) 26 = .ok (.iastore, 1) := by decide +kernel
theorem d_Roads_measure_27 : decode (ab_bc mt_Roads_measure) 27 = .ok (.iinc 2 1, 3) := by decide +kernel
theorem d_Roads_measure_30 : decode (ab_bc mt_Roads_measure) 30 = .ok (.goto (-20), 3) := by decide +kernel
theorem d_Roads_measure_33 : decode (ab_bc mt_Roads_measure) 33 = .ok (.iconst 0, 1) := by decide +kernel
theorem d_Roads_measure_34 : decode (ab_bc mt_Roads_measure) 34 = .ok (.istore_n 2, 1) := by decide +kernel
theorem d_Roads_measure_35 : decode (ab_bc mt_Roads_measure) 35 = .ok (.iload_n 2, 1) := by decide +kernel
theorem d_Roads_measure_36 : decode (ab_bc mt_Roads_measure) 36 = .ok (.aload_n 0, 1) := by decide +kernel
theorem d_Roads_measure_37 : decode (ab_bc mt_Roads_measure) 37 = .ok (.getfield 9, 3) := by decide +kernel
theorem d_Roads_measure_40 : decode (ab_bc mt_Roads_measure) 40 = .ok (.if_icmp .ge 16, 3) := by decide +kernel
theorem d_Roads_measure_43 : decode (ab_bc mt_Roads_measure) 43 = .ok (.aload_n 0, 1) := by decide +kernel
theorem d_Roads_measure_44 : decode (ab_bc mt_Roads_measure) 44 = .ok (.iload_n 2, 1) := by decide +kernel
theorem d_Roads_measure_45 : decode (ab_bc mt_Roads_measure) 45 = .ok (.iload_n 2, 1) := by decide +kernel
theorem d_Roads_measure_46 : decode (ab_bc mt_Roads_measure) 46 = .ok (.iconst 0, 1) := by decide +kernel
theorem d_Roads_measure_47 : decode (ab_bc mt_Roads_measure) 47 = .ok (.invokevirtual 38, 3) := by decide +kernel
theorem d_Roads_measure_50 : decode (ab_bc mt_Roads_measure) 50 = .ok (.iinc 2 1, 3) := by decide +kernel
theorem d_Roads_measure_53 : decode (ab_bc mt_Roads_measure) 53 = .ok (.goto (-18), 3) := by decide +kernel
theorem d_Roads_measure_56 : decode (ab_bc mt_Roads_measure) 56 = .ok (.iconst 0, 1) := by decide +kernel
theorem d_Roads_measure_57 : decode (ab_bc mt_Roads_measure) 57 = .ok (.istore_n 2, 1) := by decide +kernel
theorem d_Roads_measure_58 : decode (ab_bc mt_Roads_measure) 58 = .ok (.iload_n 2, 1) := by decide +kernel
theorem d_Roads_measure_59 : decode (ab_bc mt_Roads_measure) 59 = .ok (.aload_n 1, 1) := by decide +kernel
theorem d_Roads_measure_60 : decode (ab_bc mt_Roads_measure) 60 = .ok (.getfield 42, 3) := by decide +kernel
theorem d_Roads_measure_63 : decode (ab_bc mt_Roads_measure) 63 = .ok (.if_icmp .ge 61, 3) := by decide +kernel
theorem d_Roads_measure_66 : decode (ab_bc mt_Roads_measure) 66 = .ok (.aload_n 1, 1) := by decide +kernel
theorem d_Roads_measure_67 : decode (ab_bc mt_Roads_measure) 67 = .ok (.iload_n 2, 1) := by decide +kernel
theorem d_Roads_measure_68 : decode (ab_bc mt_Roads_measure) 68 = .ok (.invokevirtual 45, 3) := by decide +kernel
theorem d_Roads_measure_71 : decode (ab_bc mt_Roads_measure) 71 = .ok (.ifCond .eq 47, 3) := by decide +kernel
theorem d_Roads_measure_74 : decode (ab_bc mt_Roads_measure) 74 = .ok (.aload_n 0, 1) := by decide +kernel
theorem d_Roads_measure_75 : decode (ab_bc mt_Roads_measure) 75 = .ok (.aload_n 1, 1) := by decide +kernel
theorem d_Roads_measure_76 : decode (ab_bc mt_Roads_measure) 76 = .ok (.getfield 49, 3) := by decide +kernel
theorem d_Roads_measure_79 : decode (ab_bc mt_Roads_measure) 79 = .ok (.iload_n 2, 1) := by decide +kernel
theorem d_Roads_measure_80 : decode (ab_bc mt_Roads_measure) 80 = .ok (.iaload, 1) := by decide +kernel
theorem d_Roads_measure_81 : decode (ab_bc mt_Roads_measure) 81 = .ok (.aload_n 1, 1) := by decide +kernel
theorem d_Roads_measure_82 : decode (ab_bc mt_Roads_measure) 82 = .ok (.getfield 52, 3) := by decide +kernel
theorem d_Roads_measure_85 : decode (ab_bc mt_Roads_measure) 85 = .ok (.iload_n 2, 1) := by decide +kernel
theorem d_Roads_measure_86 : decode (ab_bc mt_Roads_measure) 86 = .ok (.iaload, 1) := by decide +kernel
theorem d_Roads_measure_87 : decode (ab_bc mt_Roads_measure) 87 = .ok (.aload_n 1, 1) := by decide +kernel
theorem d_Roads_measure_88 : decode (ab_bc mt_Roads_measure) 88 = .ok (.getfield 55, 3) := by decide +kernel
theorem d_Roads_measure_91 : decode (ab_bc mt_Roads_measure) 91 = .ok (.iload_n 2, 1) := by decide +kernel
theorem d_Roads_measure_92 : decode (ab_bc mt_Roads_measure) 92 = .ok (.iaload, 1) := by decide +kernel
theorem d_Roads_measure_93 : decode (ab_bc mt_Roads_measure) 93 = .ok (.invokevirtual 38, 3) := by decide +kernel
theorem d_Roads_measure_96 : decode (ab_bc mt_Roads_measure) 96 = .ok (.aload_n 0, 1) := by decide +kernel
theorem d_Roads_measure_97 : decode (ab_bc mt_Roads_measure) 97 = .ok (.aload_n 1, 1) := by decide +kernel
theorem d_Roads_measure_98 : decode (ab_bc mt_Roads_measure) 98 = .ok (.getfield 52, 3) := by decide +kernel
theorem d_Roads_measure_101 : decode (ab_bc mt_Roads_measure) 101 = .ok (.iload_n 2, 1) := by decide +kernel
theorem d_Roads_measure_102 : decode (ab_bc mt_Roads_measure) 102 = .ok (.iaload, 1) := by decide +kernel
theorem d_Roads_measure_103 : decode (ab_bc mt_Roads_measure) 103 = .ok (.aload_n 1, 1) := by decide +kernel
theorem d_Roads_measure_104 : decode (ab_bc mt_Roads_measure) 104 = .ok (.getfield 49, 3) := by decide +kernel
theorem d_Roads_measure_107 : decode (ab_bc mt_Roads_measure) 107 = .ok (.iload_n 2, 1) := by decide +kernel
theorem d_Roads_measure_108 : decode (ab_bc mt_Roads_measure) 108 = .ok (.iaload, 1) := by decide +kernel
theorem d_Roads_measure_109 : decode (ab_bc mt_Roads_measure) 109 = .ok (.aload_n 1, 1) := by decide +kernel
theorem d_Roads_measure_110 : decode (ab_bc mt_Roads_measure) 110 = .ok (.getfield 55, 3) := by decide +kernel
theorem d_Roads_measure_113 : decode (ab_bc mt_Roads_measure) 113 = .ok (.iload_n 2, 1) := by decide +kernel
theorem d_Roads_measure_114 : decode (ab_bc mt_Roads_measure) 114 = .ok (.iaload, 1) := by decide +kernel
theorem d_Roads_measure_115 : decode (ab_bc mt_Roads_measure) 115 = .ok (.invokevirtual 38, 3) := by decide +kernel
theorem d_Roads_measure_118 : decode (ab_bc mt_Roads_measure) 118 = .ok (.iinc 2 1, 3) := by decide +kernel
theorem d_Roads_measure_121 : decode (ab_bc mt_Roads_measure) 121 = .ok (.goto (-63), 3) := by decide +kernel
theorem d_Roads_measure_124 : decode (ab_bc mt_Roads_measure) 124 = .ok (.iconst 0, 1) := by decide +kernel
theorem d_Roads_measure_125 : decode (ab_bc mt_Roads_measure) 125 = .ok (.istore_n 2, 1) := by decide +kernel
theorem d_Roads_measure_126 : decode (ab_bc mt_Roads_measure) 126 = .ok (.iload_n 2, 1) := by decide +kernel
theorem d_Roads_measure_127 : decode (ab_bc mt_Roads_measure) 127 = .ok (.aload_n 0, 1) := by decide +kernel
theorem d_Roads_measure_128 : decode (ab_bc mt_Roads_measure) 128 = .ok (.getfield 9, 3) := by decide +kernel
theorem d_Roads_measure_131 : decode (ab_bc mt_Roads_measure) 131 = .ok (.if_icmp .ge 14, 3) := by decide +kernel
theorem d_Roads_measure_134 : decode (ab_bc mt_Roads_measure) 134 = .ok (.aload_n 0, 1) := by decide +kernel
theorem d_Roads_measure_135 : decode (ab_bc mt_Roads_measure) 135 = .ok (.iload_n 2, 1) := by decide +kernel
theorem d_Roads_measure_136 : decode (ab_bc mt_Roads_measure) 136 = .ok (.invokevirtual 58, 3) := by decide +kernel
theorem d_Roads_measure_139 : decode (ab_bc mt_Roads_measure) 139 = .ok (.iinc 2 1, 3) := by decide +kernel
theorem d_Roads_measure_142 : decode (ab_bc mt_Roads_measure) 142 = .ok (.goto (-16), 3) := by decide +kernel
theorem d_Roads_measure_145 : decode (ab_bc mt_Roads_measure) 145 = .ok (.return_, 1) := by decide +kernel
-- CableKeeper$Roads.measure(LCableKeeper$Cables;)V over kx_roads, kx_now_cables
theorem q_Roads_measure_0 {w : ab_Wd} {d n nc ns : Nat} {I : Nat → Nat → Int32} {L : Nat → Nat → Int64} {res : ab_Re}  (hc : nc ≤ res.2.2.2.2.2.1) (hs : ns ≤ res.2.2.2.2.2.2)
    (h : ab_E w (d + 1) mt_Roads_measure 10 [.ref kx_roads, .ref kx_now_cables, .int 0] [] ((ab_up I kx_roads 0 (I kx_now_cables 0)), L, ab_RR, n, nc, ns) res) : ab_E w (d + 1) mt_Roads_measure 0 [.ref kx_roads, .ref kx_now_cables, .null] [] (I, L, ab_RR, n, nc, ns) res := by
  refine ab_aload_n (i := 0) d_Roads_measure_0 rfl rfl ?_
  refine ab_aload_n (i := 1) d_Roads_measure_1 rfl rfl ?_
  refine ab_getI (ci := 1) (k := 0) d_Roads_measure_2 v_188 rfl (by decide) (by decide) rfl ?_
  refine ab_putI (ci := 5) (k := 0) d_Roads_measure_5 v_385 rfl (by decide) (by decide) rfl (Or.inl rfl) rfl rfl ?_
  refine ab_iconst (v := 0) d_Roads_measure_8 rfl ?_
  refine ab_istore_n (i := 2) d_Roads_measure_9 rfl (by decide) (Or.inr rfl) ?_
  exact h
theorem q_Roads_measure_10 {w : ab_Wd} {d n nc ns : Nat} {I : Nat → Nat → Int32} {L : Nat → Nat → Int64} {res : ab_Re} (v2 : Int32) (hc : nc ≤ res.2.2.2.2.2.1) (hs : ns ≤ res.2.2.2.2.2.2)
    (h : ((100 ≤ v2 → (ab_E w (d + 1) mt_Roads_measure 35 [.ref kx_roads, .ref kx_now_cables, .int 0] [] (I, L, ab_RR, n, nc, ns) res)) ∧ (¬ 100 ≤ v2 → ((vp_in v2 100) ∧ ab_E w (d + 1) mt_Roads_measure 10 [.ref kx_roads, .ref kx_now_cables, .int (v2 + 1)] [] ((ab_up I kx_roads_lengths v2.toNatClampNeg 1000000), L, ab_RR, n, nc, ns) res)))) : ab_E w (d + 1) mt_Roads_measure 10 [.ref kx_roads, .ref kx_now_cables, .int v2] [] (I, L, ab_RR, n, nc, ns) res := by
  refine ab_iload_n (i := 2) d_Roads_measure_10 rfl rfl ?_
  refine ab_aload_n (i := 0) d_Roads_measure_11 rfl rfl ?_
  refine ab_getR (ci := 5) (k := 1) (j := kx_roads_lengths) d_Roads_measure_12 v_386 rfl (by decide) (by decide) rfl r_kx_roads_1 ?_
  refine ab_alen (v := 100) d_Roads_measure_15 (by decide) (by decide) rfl ?_
  refine ab_icmp_ge (tgt := 33) d_Roads_measure_16 (by decide) (fun c1 => ?_) (fun c1 => ?_)
  · have h := h.1 c1
    refine ab_iconst (v := 0) d_Roads_measure_33 rfl ?_
    refine ab_istore_n (i := 2) d_Roads_measure_34 rfl (by decide) (Or.inr rfl) ?_
    exact h
  · have h := h.2 c1
    refine ab_aload_n (i := 0) d_Roads_measure_19 rfl rfl ?_
    refine ab_getR (ci := 5) (k := 1) (j := kx_roads_lengths) d_Roads_measure_20 v_386 rfl (by decide) (by decide) rfl r_kx_roads_1 ?_
    refine ab_iload_n (i := 2) d_Roads_measure_23 rfl rfl ?_
    refine ab_ldc (v := 1000000) d_Roads_measure_24 v_1033 ?_
    have g2 := h.1; have h := h.2
    refine ab_iast d_Roads_measure_26 rfl rfl g2 ?_
    refine ab_iinc (i := 2) (v := (v2 + 1)) d_Roads_measure_27 rfl rfl (by decide) (Or.inr rfl) ?_
    refine ab_goto (tgt := 10) d_Roads_measure_30 (by decide) ?_
    exact h
theorem q_Roads_measure_35 {w : ab_Wd} {d n nc ns : Nat} {I : Nat → Nat → Int32} {L : Nat → Nat → Int64} {res : ab_Re} (v2 : Int32) (hc : nc ≤ res.2.2.2.2.2.1) (hs : ns ≤ res.2.2.2.2.2.2)
    (h : (((I kx_roads 0) ≤ v2 → (ab_E w (d + 1) mt_Roads_measure 58 [.ref kx_roads, .ref kx_now_cables, .int 0] [] (I, L, ab_RR, n, nc, ns) res)) ∧ (¬ (I kx_roads 0) ≤ v2 → (∃ (I3 : Nat → Nat → Int32), ab_C w d mt_Roads_shorten [.ref kx_roads, .int v2, .int v2, .int 0] (I, L, ab_RR, n, nc, ns) (.inl none, (I3, L, ab_RR, n, nc, ns)) ∧ ab_E w (d + 1) mt_Roads_measure 35 [.ref kx_roads, .ref kx_now_cables, .int (v2 + 1)] [] (I3, L, ab_RR, n, nc, ns) res)))) : ab_E w (d + 1) mt_Roads_measure 35 [.ref kx_roads, .ref kx_now_cables, .int v2] [] (I, L, ab_RR, n, nc, ns) res := by
  refine ab_iload_n (i := 2) d_Roads_measure_35 rfl rfl ?_
  refine ab_aload_n (i := 0) d_Roads_measure_36 rfl rfl ?_
  refine ab_getI (ci := 5) (k := 0) d_Roads_measure_37 v_385 rfl (by decide) (by decide) rfl ?_
  refine ab_icmp_ge (tgt := 56) d_Roads_measure_40 (by decide) (fun c1 => ?_) (fun c1 => ?_)
  · have h := h.1 c1
    refine ab_iconst (v := 0) d_Roads_measure_56 rfl ?_
    refine ab_istore_n (i := 2) d_Roads_measure_57 rfl (by decide) (Or.inr rfl) ?_
    exact h
  · have h := h.2 c1
    refine ab_aload_n (i := 0) d_Roads_measure_43 rfl rfl ?_
    refine ab_iload_n (i := 2) d_Roads_measure_44 rfl rfl ?_
    refine ab_iload_n (i := 2) d_Roads_measure_45 rfl rfl ?_
    refine ab_iconst (v := 0) d_Roads_measure_46 rfl ?_
    obtain ⟨I3, hC, h⟩ := h
    refine ab_callV (me2 := mt_Roads_shorten) (b := kx_roads) (as := [.int v2, .int v2, .int 0]) (st := []) (rv := none) (M2 := (I3, L, ab_RR, n, nc, ns)) d_Roads_measure_47 ce_Roads_shorten v_1034 v_1036 v_41 (by decide) rfl (Nat.le_of_ble_eq_true rfl) hC (Nat.le_refl _) (Nat.le_refl _) hc hs (fun j h9 => by cases h9) (fun _ _ => rfl) ?_
    show ab_E w (d + 1) mt_Roads_measure 50 [.ref kx_roads, .ref kx_now_cables, .int v2] [] (I3, L, ab_RR, n, nc, ns) res
    refine ab_iinc (i := 2) (v := (v2 + 1)) d_Roads_measure_50 rfl rfl (by decide) (Or.inr rfl) ?_
    refine ab_goto (tgt := 35) d_Roads_measure_53 (by decide) ?_
    exact h
theorem q_Roads_measure_58 {w : ab_Wd} {d n nc ns : Nat} {I : Nat → Nat → Int32} {L : Nat → Nat → Int64} {res : ab_Re} (v2 : Int32) (hc : nc ≤ res.2.2.2.2.2.1) (hs : ns ≤ res.2.2.2.2.2.2)
    (h : (((I kx_now_cables 1) ≤ v2 → (ab_E w (d + 1) mt_Roads_measure 126 [.ref kx_roads, .ref kx_now_cables, .int 0] [] (I, L, ab_RR, n, nc, ns) res)) ∧ (¬ (I kx_now_cables 1) ≤ v2 → (∃ (r2 : Int32), ab_C w d mt_Cables_isSound [.ref kx_now_cables, .int v2] (I, L, ab_RR, n, nc, ns) (.inl (some (.int r2)), (I, L, ab_RR, n, nc, ns)) ∧ ((r2 = 0 → (ab_E w (d + 1) mt_Roads_measure 118 [.ref kx_roads, .ref kx_now_cables, .int v2] [] (I, L, ab_RR, n, nc, ns) res)) ∧ (¬ r2 = 0 → ((vp_in v2 24) ∧ ∃ (I6 : Nat → Nat → Int32), ab_C w d mt_Roads_shorten [.ref kx_roads, .int (I kx_now_cables_first v2.toNatClampNeg), .int (I kx_now_cables_second v2.toNatClampNeg), .int (I kx_now_cables_price v2.toNatClampNeg)] (I, L, ab_RR, n, nc, ns) (.inl none, (I6, L, ab_RR, n, nc, ns)) ∧ ∃ (I8 : Nat → Nat → Int32), ab_C w d mt_Roads_shorten [.ref kx_roads, .int (I6 kx_now_cables_second v2.toNatClampNeg), .int (I6 kx_now_cables_first v2.toNatClampNeg), .int (I6 kx_now_cables_price v2.toNatClampNeg)] (I6, L, ab_RR, n, nc, ns) (.inl none, (I8, L, ab_RR, n, nc, ns)) ∧ ab_E w (d + 1) mt_Roads_measure 118 [.ref kx_roads, .ref kx_now_cables, .int v2] [] (I8, L, ab_RR, n, nc, ns) res))))))) : ab_E w (d + 1) mt_Roads_measure 58 [.ref kx_roads, .ref kx_now_cables, .int v2] [] (I, L, ab_RR, n, nc, ns) res := by
  refine ab_iload_n (i := 2) d_Roads_measure_58 rfl rfl ?_
  refine ab_aload_n (i := 1) d_Roads_measure_59 rfl rfl ?_
  refine ab_getI (ci := 1) (k := 1) d_Roads_measure_60 v_196 rfl (by decide) (by decide) rfl ?_
  refine ab_icmp_ge (tgt := 124) d_Roads_measure_63 (by decide) (fun c1 => ?_) (fun c1 => ?_)
  · have h := h.1 c1
    refine ab_iconst (v := 0) d_Roads_measure_124 rfl ?_
    refine ab_istore_n (i := 2) d_Roads_measure_125 rfl (by decide) (Or.inr rfl) ?_
    exact h
  · have h := h.2 c1
    refine ab_aload_n (i := 1) d_Roads_measure_66 rfl rfl ?_
    refine ab_iload_n (i := 2) d_Roads_measure_67 rfl rfl ?_
    obtain ⟨r2, hC, h⟩ := h
    refine ab_callV (me2 := mt_Cables_isSound) (b := kx_now_cables) (as := [.int v2]) (st := []) (rv := (some (.int r2))) (M2 := (I, L, ab_RR, n, nc, ns)) d_Roads_measure_68 ce_Cables_isSound v_1039 v_540 v_541 (by decide) rfl (Nat.le_of_ble_eq_true rfl) hC (Nat.le_refl _) (Nat.le_refl _) hc hs (fun j h9 => by cases h9) (fun _ _ => rfl) ?_
    show ab_E w (d + 1) mt_Roads_measure 71 [.ref kx_roads, .ref kx_now_cables, .int v2] [.int r2] (I, L, ab_RR, n, nc, ns) res
    refine ab_if_eq (tgt := 118) d_Roads_measure_71 (by decide) (fun c3 => ?_) (fun c3 => ?_)
    · have h := h.1 c3
      exact h
    · have h := h.2 c3
      refine ab_aload_n (i := 0) d_Roads_measure_74 rfl rfl ?_
      refine ab_aload_n (i := 1) d_Roads_measure_75 rfl rfl ?_
      refine ab_getR (ci := 1) (k := 3) (j := kx_now_cables_first) d_Roads_measure_76 v_208 rfl (by decide) (by decide) rfl r_kx_now_cables_3 ?_
      refine ab_iload_n (i := 2) d_Roads_measure_79 rfl rfl ?_
      have g4 := h.1; have h := h.2
      refine ab_iald d_Roads_measure_80 rfl rfl g4 ?_
      refine ab_aload_n (i := 1) d_Roads_measure_81 rfl rfl ?_
      refine ab_getR (ci := 1) (k := 4) (j := kx_now_cables_second) d_Roads_measure_82 v_215 rfl (by decide) (by decide) rfl r_kx_now_cables_4 ?_
      refine ab_iload_n (i := 2) d_Roads_measure_85 rfl rfl ?_
      refine ab_iald d_Roads_measure_86 rfl rfl g4 ?_
      refine ab_aload_n (i := 1) d_Roads_measure_87 rfl rfl ?_
      refine ab_getR (ci := 1) (k := 5) (j := kx_now_cables_price) d_Roads_measure_88 v_223 rfl (by decide) (by decide) rfl r_kx_now_cables_5 ?_
      refine ab_iload_n (i := 2) d_Roads_measure_91 rfl rfl ?_
      refine ab_iald d_Roads_measure_92 rfl rfl g4 ?_
      obtain ⟨I6, hC, h⟩ := h
      refine ab_callV (me2 := mt_Roads_shorten) (b := kx_roads) (as := [.int (I kx_now_cables_first v2.toNatClampNeg), .int (I kx_now_cables_second v2.toNatClampNeg), .int (I kx_now_cables_price v2.toNatClampNeg)]) (st := []) (rv := none) (M2 := (I6, L, ab_RR, n, nc, ns)) d_Roads_measure_93 ce_Roads_shorten v_1034 v_1036 v_41 (by decide) rfl (Nat.le_of_ble_eq_true rfl) hC (Nat.le_refl _) (Nat.le_refl _) hc hs (fun j h9 => by cases h9) (fun _ _ => rfl) ?_
      show ab_E w (d + 1) mt_Roads_measure 96 [.ref kx_roads, .ref kx_now_cables, .int v2] [] (I6, L, ab_RR, n, nc, ns) res
      refine ab_aload_n (i := 0) d_Roads_measure_96 rfl rfl ?_
      refine ab_aload_n (i := 1) d_Roads_measure_97 rfl rfl ?_
      refine ab_getR (ci := 1) (k := 4) (j := kx_now_cables_second) d_Roads_measure_98 v_215 rfl (by decide) (by decide) rfl r_kx_now_cables_4 ?_
      refine ab_iload_n (i := 2) d_Roads_measure_101 rfl rfl ?_
      refine ab_iald d_Roads_measure_102 rfl rfl g4 ?_
      refine ab_aload_n (i := 1) d_Roads_measure_103 rfl rfl ?_
      refine ab_getR (ci := 1) (k := 3) (j := kx_now_cables_first) d_Roads_measure_104 v_208 rfl (by decide) (by decide) rfl r_kx_now_cables_3 ?_
      refine ab_iload_n (i := 2) d_Roads_measure_107 rfl rfl ?_
      refine ab_iald d_Roads_measure_108 rfl rfl g4 ?_
      refine ab_aload_n (i := 1) d_Roads_measure_109 rfl rfl ?_
      refine ab_getR (ci := 1) (k := 5) (j := kx_now_cables_price) d_Roads_measure_110 v_223 rfl (by decide) (by decide) rfl r_kx_now_cables_5 ?_
      refine ab_iload_n (i := 2) d_Roads_measure_113 rfl rfl ?_
      refine ab_iald d_Roads_measure_114 rfl rfl g4 ?_
      obtain ⟨I8, hC, h⟩ := h
      refine ab_callV (me2 := mt_Roads_shorten) (b := kx_roads) (as := [.int (I6 kx_now_cables_second v2.toNatClampNeg), .int (I6 kx_now_cables_first v2.toNatClampNeg), .int (I6 kx_now_cables_price v2.toNatClampNeg)]) (st := []) (rv := none) (M2 := (I8, L, ab_RR, n, nc, ns)) d_Roads_measure_115 ce_Roads_shorten v_1034 v_1036 v_41 (by decide) rfl (Nat.le_of_ble_eq_true rfl) hC (Nat.le_refl _) (Nat.le_refl _) hc hs (fun j h9 => by cases h9) (fun _ _ => rfl) ?_
      show ab_E w (d + 1) mt_Roads_measure 118 [.ref kx_roads, .ref kx_now_cables, .int v2] [] (I8, L, ab_RR, n, nc, ns) res
      exact h
theorem q_Roads_measure_118 {w : ab_Wd} {d n nc ns : Nat} {I : Nat → Nat → Int32} {L : Nat → Nat → Int64} {res : ab_Re} (v2 : Int32) (hc : nc ≤ res.2.2.2.2.2.1) (hs : ns ≤ res.2.2.2.2.2.2)
    (h : ab_E w (d + 1) mt_Roads_measure 58 [.ref kx_roads, .ref kx_now_cables, .int (v2 + 1)] [] (I, L, ab_RR, n, nc, ns) res) : ab_E w (d + 1) mt_Roads_measure 118 [.ref kx_roads, .ref kx_now_cables, .int v2] [] (I, L, ab_RR, n, nc, ns) res := by
  refine ab_iinc (i := 2) (v := (v2 + 1)) d_Roads_measure_118 rfl rfl (by decide) (Or.inr rfl) ?_
  refine ab_goto (tgt := 58) d_Roads_measure_121 (by decide) ?_
  exact h
theorem q_Roads_measure_126 {w : ab_Wd} {d n nc ns : Nat} {I : Nat → Nat → Int32} {L : Nat → Nat → Int64} {res : ab_Re} (v2 : Int32) (hc : nc ≤ res.2.2.2.2.2.1) (hs : ns ≤ res.2.2.2.2.2.2)
    (h : (((I kx_roads 0) ≤ v2 → (res = (.inl none, (I, L, ab_RR, n, nc, ns)))) ∧ (¬ (I kx_roads 0) ≤ v2 → (∃ (I3 : Nat → Nat → Int32), ab_C w d mt_Roads_measureOver [.ref kx_roads, .int v2] (I, L, ab_RR, n, nc, ns) (.inl none, (I3, L, ab_RR, n, nc, ns)) ∧ ab_E w (d + 1) mt_Roads_measure 126 [.ref kx_roads, .ref kx_now_cables, .int (v2 + 1)] [] (I3, L, ab_RR, n, nc, ns) res)))) : ab_E w (d + 1) mt_Roads_measure 126 [.ref kx_roads, .ref kx_now_cables, .int v2] [] (I, L, ab_RR, n, nc, ns) res := by
  refine ab_iload_n (i := 2) d_Roads_measure_126 rfl rfl ?_
  refine ab_aload_n (i := 0) d_Roads_measure_127 rfl rfl ?_
  refine ab_getI (ci := 5) (k := 0) d_Roads_measure_128 v_385 rfl (by decide) (by decide) rfl ?_
  refine ab_icmp_ge (tgt := 145) d_Roads_measure_131 (by decide) (fun c1 => ?_) (fun c1 => ?_)
  · have h := h.1 c1
    exact ab_vret d_Roads_measure_145 rfl h
  · have h := h.2 c1
    refine ab_aload_n (i := 0) d_Roads_measure_134 rfl rfl ?_
    refine ab_iload_n (i := 2) d_Roads_measure_135 rfl rfl ?_
    obtain ⟨I3, hC, h⟩ := h
    refine ab_callV (me2 := mt_Roads_measureOver) (b := kx_roads) (as := [.int v2]) (st := []) (rv := none) (M2 := (I3, L, ab_RR, n, nc, ns)) d_Roads_measure_136 ce_Roads_measureOver v_1040 v_1042 v_42 (by decide) rfl (Nat.le_of_ble_eq_true rfl) hC (Nat.le_refl _) (Nat.le_refl _) hc hs (fun j h9 => by cases h9) (fun _ _ => rfl) ?_
    show ab_E w (d + 1) mt_Roads_measure 139 [.ref kx_roads, .ref kx_now_cables, .int v2] [] (I3, L, ab_RR, n, nc, ns) res
    refine ab_iinc (i := 2) (v := (v2 + 1)) d_Roads_measure_139 rfl rfl (by decide) (Or.inr rfl) ?_
    refine ab_goto (tgt := 126) d_Roads_measure_142 (by decide) ?_
    exact h
