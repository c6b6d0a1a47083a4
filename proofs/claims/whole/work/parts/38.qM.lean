theorem d_M_cutOf_0 : decode (ab_bc mt_M_cutOf) 0 = .ok (.iload_n 1, 1) := by decide +kernel
theorem d_M_cutOf_1 : decode (ab_bc mt_M_cutOf) 1 = .ok (.iload_n 2, 1) := by decide +kernel
theorem d_M_cutOf_2 : decode (ab_bc mt_M_cutOf) 2 = .ok (.invokestatic 237, 3) := by decide +kernel
theorem d_M_cutOf_5 : decode (ab_bc mt_M_cutOf) 5 = .ok (.ifCond .ne 5, 3) := by decide +kernel
theorem d_M_cutOf_8 : decode (ab_bc mt_M_cutOf) 8 = .ok (.iconst 0, 1) := by decide +kernel
theorem d_M_cutOf_9 : decode (ab_bc mt_M_cutOf) 9 = .ok (.ireturn, 1) := by decide +kernel
theorem d_M_cutOf_10 : decode (ab_bc mt_M_cutOf) 10 = .ok (.iconst 0, 1) := by decide +kernel
theorem d_M_cutOf_11 : decode (ab_bc mt_M_cutOf) 11 = .ok (.istore_n 3, 1) := by decide +kernel
theorem d_M_cutOf_12 : decode (ab_bc mt_M_cutOf) 12 = .ok (.iload_n 1, 1) := by decide +kernel
theorem d_M_cutOf_13 : decode (ab_bc mt_M_cutOf) 13 = .ok (.iconst 1, 1) := by decide +kernel
theorem d_M_cutOf_14 : decode (ab_bc mt_M_cutOf) 14 = .ok (.iload_n 2, 1) := by decide +kernel
theorem d_M_cutOf_15 : decode (ab_bc mt_M_cutOf) 15 = .ok (.ishl, 1) := by decide +kernel
theorem d_M_cutOf_16 : decode (ab_bc mt_M_cutOf) 16 = .ok (.iconst (-1), 1) := by decide +kernel
theorem d_M_cutOf_17 : decode (ab_bc mt_M_cutOf) 17 = .ok (.ixor, 1) := by decide +kernel
theorem d_M_cutOf_18 : decode (ab_bc mt_M_cutOf) 18 = .ok (.iand, 1) := by decide +kernel
theorem d_M_cutOf_19 : decode (ab_bc mt_M_cutOf) 19 = .ok (.istore 4, 2) := by decide +kernel
theorem d_M_cutOf_21 : decode (ab_bc mt_M_cutOf) 21 = .ok (.iconst 0, 1) := by decide +kernel
theorem d_M_cutOf_22 : decode (ab_bc mt_M_cutOf) 22 = .ok (.istore 5, 2) := by decide +kernel
theorem d_M_cutOf_24 : decode (ab_bc mt_M_cutOf) 24 = .ok (.iload 5, 2) := by decide +kernel
theorem d_M_cutOf_26 : decode (ab_bc mt_M_cutOf) 26 = .ok (.aload_n 0, 1) := by decide +kernel
theorem d_M_cutOf_27 : decode (ab_bc mt_M_cutOf) 27 = .ok (.getfield 21, 3) := by decide +kernel
theorem d_M_cutOf_30 : decode (ab_bc mt_M_cutOf) 30 = .ok (.if_icmp .ge 40, 3) := by decide +kernel
theorem d_M_cutOf_33 : decode (ab_bc mt_M_cutOf) 33 = .ok (.iload_n 3, 1) := by decide +kernel
theorem d_M_cutOf_34 : decode (ab_bc mt_M_cutOf) 34 = .ok (.aload_n 0, 1) := by decide +kernel
theorem d_M_cutOf_35 : decode (ab_bc mt_M_cutOf) 35 = .ok (.iload 4, 2) := by decide +kernel
theorem d_M_cutOf_37 : decode (ab_bc mt_M_cutOf) 37 = .ok (.aload_n 0, 1) := by decide +kernel
theorem d_M_cutOf_38 : decode (ab_bc mt_M_cutOf) 38 = .ok (.getfield 24, 3) := by decide +kernel
theorem d_M_cutOf_41 : decode (ab_bc mt_M_cutOf) 41 = .ok (.iconst 3, 1) := by decide +kernel
theorem d_M_cutOf_42 : decode (ab_bc mt_M_cutOf) 42 = .ok (.iload_n 2, 1) := by decide +kernel
theorem d_M_cutOf_43 : decode (ab_bc mt_M_cutOf) 43 = .ok (.iadd, 1) := by decide +kernel
theorem d_M_cutOf_44 : decode (ab_bc mt_M_cutOf) 44 = .ok (.iaload, 1) := by decide +kernel
theorem d_M_cutOf_45 : decode (ab_bc mt_M_cutOf) 45 = .ok (.iload 5, 2) := by decide +kernel
theorem d_M_cutOf_47 : decode (ab_bc mt_M_cutOf) 47 = .ok (.invokevirtual 275, 3) := by decide +kernel
theorem d_M_cutOf_50 : decode (ab_bc mt_M_cutOf) 50 = .ok (.iconst (-1), 1) := by decide +kernel
theorem d_M_cutOf_51 : decode (ab_bc mt_M_cutOf) 51 = .ok (.if_icmp .eq 10, 3) := by decide +kernel
theorem d_M_cutOf_54 : decode (ab_bc mt_M_cutOf) 54 = .ok (.iconst 1, 1) := by decide +kernel
theorem d_M_cutOf_55 : decode (ab_bc mt_M_cutOf) 55 = .ok (.iload 5, 2) := by decide +kernel
theorem d_M_cutOf_57 : decode (ab_bc mt_M_cutOf) 57 = .ok (.ishl, 1) := by decide +kernel
theorem d_M_cutOf_58 : decode (ab_bc mt_M_cutOf) 58 = .ok (.goto 4, 3) := by decide +kernel
theorem d_M_cutOf_61 : decode (ab_bc mt_M_cutOf) 61 = .ok (.iconst 0, 1) := by decide +kernel
theorem d_M_cutOf_62 : decode (ab_bc mt_M_cutOf) 62 = .ok (.ior, 1) := by decide +kernel
theorem d_M_cutOf_63 : decode (ab_bc mt_M_cutOf) 63 = .ok (.istore_n 3, 1) := by decide +kernel
theorem d_M_cutOf_64 : decode (ab_bc mt_M_cutOf) 64 = .ok (.iinc 5 1, 3) := by decide +kernel
theorem d_M_cutOf_67 : decode (ab_bc mt_M_cutOf) 67 = .ok (.goto (-43), 3) := by decide +kernel
theorem d_M_cutOf_70 : decode (ab_bc mt_M_cutOf) 70 = .ok (.iload_n 3, 1) := by decide +kernel
theorem d_M_cutOf_71 : decode (ab_bc mt_M_cutOf) 71 = .ok (.ireturn, 1) := by decide +kernel
-- CableKeeperModel.cutOf(II)I over mx
theorem q_M_cutOf_0 {w : ab_Wd} {d n nc ns : Nat} {I : Nat → Nat → Int32} {L : Nat → Nat → Int64} {res : ab_Re} (v1 : Int32) (v2 : Int32) (hc : nc ≤ res.2.2.2.2.2.1) (hs : ns ≤ res.2.2.2.2.2.2)
    (h : ∃ (r1 : Int32), ab_C w d mt_M_has [.int v1, .int v2] (I, L, ab_RR, n, nc, ns) (.inl (some (.int r1)), (I, L, ab_RR, n, nc, ns)) ∧ ((¬ r1 = 0 → (ab_E w (d + 1) mt_M_cutOf 24 [.ref mx, .int v1, .int v2, .int 0, .int (v1 &&& (((1 : Int32) <<< (v2 &&& 31)) ^^^ (-1))), .int 0] [] (I, L, ab_RR, n, nc, ns) res)) ∧ (r1 = 0 → (res = (.inl (some (.int 0)), (I, L, ab_RR, n, nc, ns)))))) : ab_E w (d + 1) mt_M_cutOf 0 [.ref mx, .int v1, .int v2, .null, .null, .null] [] (I, L, ab_RR, n, nc, ns) res := by
  refine ab_iload_n (i := 1) d_M_cutOf_0 rfl rfl ?_
  refine ab_iload_n (i := 2) d_M_cutOf_1 rfl rfl ?_
  obtain ⟨r1, hC, h⟩ := h
  refine ab_callS (me2 := mt_M_has) (as := [.int v1, .int v2]) (st := []) (rv := (some (.int r1))) (M2 := (I, L, ab_RR, n, nc, ns)) d_M_cutOf_2 ce_M_has ⟨v_1648, Or.inl v_1647⟩ (Nat.le_of_ble_eq_true rfl) hC (Nat.le_refl _) (Nat.le_refl _) hc hs (fun j h9 => by cases h9) (fun _ _ => rfl) ?_
  show ab_E w (d + 1) mt_M_cutOf 5 [.ref mx, .int v1, .int v2, .null, .null, .null] [.int r1] (I, L, ab_RR, n, nc, ns) res
  refine ab_if_ne (tgt := 10) d_M_cutOf_5 (by decide) (fun c2 => ?_) (fun c2 => ?_)
  · have h := h.1 c2
    refine ab_iconst (v := 0) d_M_cutOf_10 rfl ?_
    refine ab_istore_n (i := 3) d_M_cutOf_11 rfl (by decide) (Or.inr rfl) ?_
    refine ab_iload_n (i := 1) d_M_cutOf_12 rfl rfl ?_
    refine ab_iconst (v := 1) d_M_cutOf_13 rfl ?_
    refine ab_iload_n (i := 2) d_M_cutOf_14 rfl rfl ?_
    refine ab_ishl d_M_cutOf_15 ?_
    refine ab_iconst (v := (-1)) d_M_cutOf_16 rfl ?_
    refine ab_ixor d_M_cutOf_17 ?_
    refine ab_iand d_M_cutOf_18 ?_
    refine ab_istore (i := 4) d_M_cutOf_19 (by decide) (Or.inr rfl) ?_
    refine ab_iconst (v := 0) d_M_cutOf_21 rfl ?_
    refine ab_istore (i := 5) d_M_cutOf_22 (by decide) (Or.inr rfl) ?_
    exact h
  · have h := h.2 c2
    refine ab_iconst (v := 0) d_M_cutOf_8 rfl ?_
    exact ab_iret (ty := .int) d_M_cutOf_9 rfl rfl h
theorem q_M_cutOf_24 {w : ab_Wd} {d n nc ns : Nat} {I : Nat → Nat → Int32} {L : Nat → Nat → Int64} {res : ab_Re} (v1 : Int32) (v2 : Int32) (v3 : Int32) (v4 : Int32) (v5 : Int32) (hc : nc ≤ res.2.2.2.2.2.1) (hs : ns ≤ res.2.2.2.2.2.2)
    (h : (((I mx 2) ≤ v5 → (res = (.inl (some (.int v3)), (I, L, ab_RR, n, nc, ns)))) ∧ (¬ (I mx 2) ≤ v5 → ((vp_in (3 + v2) 399) ∧ ∃ (r3 : Int32) (I4 : Nat → Nat → Int32), ab_C w d mt_M_tellWay [.ref mx, .int v4, .int (I mx_now (3 + v2).toNatClampNeg), .int v5] (I, L, ab_RR, n, nc, ns) (.inl (some (.int r3)), (I4, L, ab_RR, n, nc, ns)) ∧ ((r3 = (-1) → (ab_E w (d + 1) mt_M_cutOf 62 [.ref mx, .int v1, .int v2, .int v3, .int v4, .int v5] [.int 0, .int v3] (I4, L, ab_RR, n, nc, ns) res)) ∧ (¬ r3 = (-1) → (ab_E w (d + 1) mt_M_cutOf 62 [.ref mx, .int v1, .int v2, .int v3, .int v4, .int v5] [.int ((1 : Int32) <<< (v5 &&& 31)), .int v3] (I4, L, ab_RR, n, nc, ns) res))))))) : ab_E w (d + 1) mt_M_cutOf 24 [.ref mx, .int v1, .int v2, .int v3, .int v4, .int v5] [] (I, L, ab_RR, n, nc, ns) res := by
  refine ab_iload (i := 5) d_M_cutOf_24 rfl ?_
  refine ab_aload_n (i := 0) d_M_cutOf_26 rfl rfl ?_
  refine ab_getI (ci := 11) (k := 2) d_M_cutOf_27 v_1370 rfl (by decide) (by decide) rfl ?_
  refine ab_icmp_ge (tgt := 70) d_M_cutOf_30 (by decide) (fun c1 => ?_) (fun c1 => ?_)
  · have h := h.1 c1
    refine ab_iload_n (i := 3) d_M_cutOf_70 rfl rfl ?_
    exact ab_iret (ty := .int) d_M_cutOf_71 rfl rfl h
  · have h := h.2 c1
    refine ab_iload_n (i := 3) d_M_cutOf_33 rfl rfl ?_
    refine ab_aload_n (i := 0) d_M_cutOf_34 rfl rfl ?_
    refine ab_iload (i := 4) d_M_cutOf_35 rfl ?_
    refine ab_aload_n (i := 0) d_M_cutOf_37 rfl rfl ?_
    refine ab_getR (ci := 11) (k := 4) (j := mx_now) d_M_cutOf_38 v_1372 rfl (by decide) (by decide) rfl r_mx_4 ?_
    refine ab_iconst (v := 3) d_M_cutOf_41 rfl ?_
    refine ab_iload_n (i := 2) d_M_cutOf_42 rfl rfl ?_
    refine ab_iadd d_M_cutOf_43 ?_
    have g2 := h.1; have h := h.2
    refine ab_iald d_M_cutOf_44 rfl rfl g2 ?_
    refine ab_iload (i := 5) d_M_cutOf_45 rfl ?_
    obtain ⟨r3, I4, hC, h⟩ := h
    refine ab_callV (me2 := mt_M_tellWay) (b := mx) (as := [.int v4, .int (I mx_now (3 + v2).toNatClampNeg), .int v5]) (st := [.int v3]) (rv := (some (.int r3))) (M2 := (I4, L, ab_RR, n, nc, ns)) d_M_cutOf_47 ce_M_tellWay v_1687 v_1689 v_91 (by decide) rfl (Nat.le_of_ble_eq_true rfl) hC (Nat.le_refl _) (Nat.le_refl _) hc hs (fun j h9 => by cases h9) (fun _ _ => rfl) ?_
    show ab_E w (d + 1) mt_M_cutOf 50 [.ref mx, .int v1, .int v2, .int v3, .int v4, .int v5] [.int r3, .int v3] (I4, L, ab_RR, n, nc, ns) res
    refine ab_iconst (v := (-1)) d_M_cutOf_50 rfl ?_
    refine ab_icmp_eq (tgt := 61) d_M_cutOf_51 (by decide) (fun c5 => ?_) (fun c5 => ?_)
    · have h := h.1 c5
      refine ab_iconst (v := 0) d_M_cutOf_61 rfl ?_
      exact h
    · have h := h.2 c5
      refine ab_iconst (v := 1) d_M_cutOf_54 rfl ?_
      refine ab_iload (i := 5) d_M_cutOf_55 rfl ?_
      refine ab_ishl d_M_cutOf_57 ?_
      refine ab_goto (tgt := 62) d_M_cutOf_58 (by decide) ?_
      exact h
theorem q_M_cutOf_62 {w : ab_Wd} {d n nc ns : Nat} {I : Nat → Nat → Int32} {L : Nat → Nat → Int64} {res : ab_Re} (v1 : Int32) (v2 : Int32) (v3 : Int32) (v4 : Int32) (v5 : Int32) (s0 : Int32) (s1 : Int32) (hc : nc ≤ res.2.2.2.2.2.1) (hs : ns ≤ res.2.2.2.2.2.2)
    (h : ab_E w (d + 1) mt_M_cutOf 24 [.ref mx, .int v1, .int v2, .int (s0 ||| s1), .int v4, .int (v5 + 1)] [] (I, L, ab_RR, n, nc, ns) res) : ab_E w (d + 1) mt_M_cutOf 62 [.ref mx, .int v1, .int v2, .int v3, .int v4, .int v5] [.int s1, .int s0] (I, L, ab_RR, n, nc, ns) res := by
  refine ab_ior d_M_cutOf_62 ?_
  refine ab_istore_n (i := 3) d_M_cutOf_63 rfl (by decide) (Or.inr rfl) ?_
  refine ab_iinc (i := 5) (v := (v5 + 1)) d_M_cutOf_64 rfl rfl (by decide) (Or.inr rfl) ?_
  refine ab_goto (tgt := 24) d_M_cutOf_67 (by decide) ?_
  exact h
theorem d_M_rivalOf_0 : decode (ab_bc mt_M_rivalOf) 0 = .ok (.aload_n 0, 1) := by decide +kernel
theorem d_M_rivalOf_1 : decode (ab_bc mt_M_rivalOf) 1 = .ok (.iload_n 1, 1) := by decide +kernel
theorem d_M_rivalOf_2 : decode (ab_bc mt_M_rivalOf) 2 = .ok (.iload_n 2, 1) := by decide +kernel
theorem d_M_rivalOf_3 : decode (ab_bc mt_M_rivalOf) 3 = .ok (.invokevirtual 279, 3) := by decide +kernel
theorem d_M_rivalOf_6 : decode (ab_bc mt_M_rivalOf) 6 = .ok (.istore_n 3, 1) := by decide +kernel
theorem d_M_rivalOf_7 : decode (ab_bc mt_M_rivalOf) 7 = .ok (.iconst (-1), 1) := by decide +kernel
theorem d_M_rivalOf_8 : decode (ab_bc mt_M_rivalOf) 8 = .ok (.istore 4, 2) := by decide +kernel
theorem d_M_rivalOf_10 : decode (ab_bc mt_M_rivalOf) 10 = .ok (.iconst 0, 1) := by decide +kernel
theorem d_M_rivalOf_11 : decode (ab_bc mt_M_rivalOf) 11 = .ok (.istore 5, 2) := by decide +kernel
theorem d_M_rivalOf_13 : decode (ab_bc mt_M_rivalOf) 13 = .ok (.iload 5, 2) := by decide +kernel
theorem d_M_rivalOf_15 : decode (ab_bc mt_M_rivalOf) 15 = .ok (.aload_n 0, 1) := by decide +kernel
theorem d_M_rivalOf_16 : decode (ab_bc mt_M_rivalOf) 16 = .ok (.invokevirtual 234, 3) := by decide +kernel
theorem d_M_rivalOf_19 : decode (ab_bc mt_M_rivalOf) 19 = .ok (.if_icmp .ge 87, 3) := by decide +kernel
theorem d_M_rivalOf_22 : decode (ab_bc mt_M_rivalOf) 22 = .ok (.iload 5, 2) := by decide +kernel
theorem d_M_rivalOf_24 : decode (ab_bc mt_M_rivalOf) 24 = .ok (.iload_n 2, 1) := by decide +kernel
theorem d_M_rivalOf_25 : decode (ab_bc mt_M_rivalOf) 25 = .ok (.if_icmp .eq 75, 3) := by decide +kernel
theorem d_M_rivalOf_28 : decode (ab_bc mt_M_rivalOf) 28 = .ok (.aload_n 0, 1) := by decide +kernel
theorem d_M_rivalOf_29 : decode (ab_bc mt_M_rivalOf) 29 = .ok (.iload 5, 2) := by decide +kernel
theorem d_M_rivalOf_31 : decode (ab_bc mt_M_rivalOf) 31 = .ok (.invokevirtual 262, 3) := by decide +kernel
theorem d_M_rivalOf_34 : decode (ab_bc mt_M_rivalOf) 34 = .ok (.ifCond .eq 66, 3) := by decide +kernel
theorem d_M_rivalOf_37 : decode (ab_bc mt_M_rivalOf) 37 = .ok (.iload_n 3, 1) := by decide +kernel
theorem d_M_rivalOf_38 : decode (ab_bc mt_M_rivalOf) 38 = .ok (.ifCond .eq 62, 3) := by decide +kernel
theorem d_M_rivalOf_41 : decode (ab_bc mt_M_rivalOf) 41 = .ok (.iload_n 3, 1) := by decide +kernel
theorem d_M_rivalOf_42 : decode (ab_bc mt_M_rivalOf) 42 = .ok (.aload_n 0, 1) := by decide +kernel
theorem d_M_rivalOf_43 : decode (ab_bc mt_M_rivalOf) 43 = .ok (.getfield 24, 3) := by decide +kernel
theorem d_M_rivalOf_46 : decode (ab_bc mt_M_rivalOf) 46 = .ok (.iconst 3, 1) := by decide +kernel
theorem d_M_rivalOf_47 : decode (ab_bc mt_M_rivalOf) 47 = .ok (.iload 5, 2) := by decide +kernel
theorem d_M_rivalOf_49 : decode (ab_bc mt_M_rivalOf) 49 = .ok (.iadd, 1) := by decide +kernel
theorem d_M_rivalOf_50 : decode (ab_bc mt_M_rivalOf) 50 = .ok (.iaload, 1) := by decide +kernel
theorem d_M_rivalOf_51 : decode (ab_bc mt_M_rivalOf) 51 = .ok (.invokestatic 237, 3) := by decide +kernel
theorem d_M_rivalOf_54 : decode (ab_bc mt_M_rivalOf) 54 = .ok (.iload_n 3, 1) := by decide +kernel
theorem d_M_rivalOf_55 : decode (ab_bc mt_M_rivalOf) 55 = .ok (.aload_n 0, 1) := by decide +kernel
theorem d_M_rivalOf_56 : decode (ab_bc mt_M_rivalOf) 56 = .ok (.getfield 24, 3) := by decide +kernel
theorem d_M_rivalOf_59 : decode (ab_bc mt_M_rivalOf) 59 = .ok (.bipush 27, 2) := by decide +kernel
theorem d_M_rivalOf_61 : decode (ab_bc mt_M_rivalOf) 61 = .ok (.iload 5, 2) := by decide +kernel
theorem d_M_rivalOf_63 : decode (ab_bc mt_M_rivalOf) 63 = .ok (.iadd, 1) := by decide +kernel
theorem d_M_rivalOf_64 : decode (ab_bc mt_M_rivalOf) 64 = .ok (.iaload, 1) := by decide +kernel
theorem d_M_rivalOf_65 : decode (ab_bc mt_M_rivalOf) 65 = .ok (.invokestatic 237, 3) := by decide +kernel
theorem d_M_rivalOf_68 : decode (ab_bc mt_M_rivalOf) 68 = .ok (.if_icmp .ne 6, 3) := by decide +kernel
theorem d_M_rivalOf_71 : decode (ab_bc mt_M_rivalOf) 71 = .ok (.goto 29, 3) := by decide +kernel
theorem d_M_rivalOf_74 : decode (ab_bc mt_M_rivalOf) 74 = .ok (.iload 4, 2) := by decide +kernel
theorem d_M_rivalOf_76 : decode (ab_bc mt_M_rivalOf) 76 = .ok (.iconst (-1), 1) := by decide +kernel
theorem d_M_rivalOf_77 : decode (ab_bc mt_M_rivalOf) 77 = .ok (.if_icmp .eq 14, 3) := by decide +kernel
theorem d_M_rivalOf_80 : decode (ab_bc mt_M_rivalOf) 80 = .ok (.aload_n 0, 1) := by decide +kernel
theorem d_M_rivalOf_81 : decode (ab_bc mt_M_rivalOf) 81 = .ok (.iload 5, 2) := by decide +kernel
theorem d_M_rivalOf_83 : decode (ab_bc mt_M_rivalOf) 83 = .ok (.iload 4, 2) := by decide +kernel
theorem d_M_rivalOf_85 : decode (ab_bc mt_M_rivalOf) 85 = .ok (.invokevirtual 241, 3) := by decide +kernel
theorem d_M_rivalOf_88 : decode (ab_bc mt_M_rivalOf) 88 = .ok (.ifCond .eq 8, 3) := by decide +kernel
theorem d_M_rivalOf_91 : decode (ab_bc mt_M_rivalOf) 91 = .ok (.iload 5, 2) := by decide +kernel
theorem d_M_rivalOf_93 : decode (ab_bc mt_M_rivalOf) 93 = .ok (.goto 5, 3) := by decide +kernel
theorem d_M_rivalOf_96 : decode (ab_bc mt_M_rivalOf) 96 = .ok (.iload 4, 2) := by decide +kernel
theorem d_M_rivalOf_98 : decode (ab_bc mt_M_rivalOf) 98 = .ok (.istore 4, 2) := by decide +kernel
theorem d_M_rivalOf_100 : decode (ab_bc mt_M_rivalOf) 100 = .ok (.iinc 5 1, 3) := by decide +kernel
theorem d_M_rivalOf_103 : decode (ab_bc mt_M_rivalOf) 103 = .ok (.goto (-90), 3) := by decide +kernel
theorem d_M_rivalOf_106 : decode (ab_bc mt_M_rivalOf) 106 = .ok (.iload 4, 2) := by decide +kernel
theorem d_M_rivalOf_108 : decode (ab_bc mt_M_rivalOf) 108 = .ok (.ireturn, 1) := by decide +kernel
-- CableKeeperModel.rivalOf(II)I over mx
theorem q_M_rivalOf_0 {w : ab_Wd} {d n nc ns : Nat} {I : Nat → Nat → Int32} {L : Nat → Nat → Int64} {res : ab_Re} (v1 : Int32) (v2 : Int32) (hc : nc ≤ res.2.2.2.2.2.1) (hs : ns ≤ res.2.2.2.2.2.2)
    (h : ∃ (r1 : Int32) (I2 : Nat → Nat → Int32), ab_C w d mt_M_cutOf [.ref mx, .int v1, .int v2] (I, L, ab_RR, n, nc, ns) (.inl (some (.int r1)), (I2, L, ab_RR, n, nc, ns)) ∧ ab_E w (d + 1) mt_M_rivalOf 13 [.ref mx, .int v1, .int v2, .int r1, .int (-1), .int 0] [] (I2, L, ab_RR, n, nc, ns) res) : ab_E w (d + 1) mt_M_rivalOf 0 [.ref mx, .int v1, .int v2, .null, .null, .null] [] (I, L, ab_RR, n, nc, ns) res := by
  refine ab_aload_n (i := 0) d_M_rivalOf_0 rfl rfl ?_
  refine ab_iload_n (i := 1) d_M_rivalOf_1 rfl rfl ?_
  refine ab_iload_n (i := 2) d_M_rivalOf_2 rfl rfl ?_
  obtain ⟨r1, I2, hC, h⟩ := h
  refine ab_callV (me2 := mt_M_cutOf) (b := mx) (as := [.int v1, .int v2]) (st := []) (rv := (some (.int r1))) (M2 := (I2, L, ab_RR, n, nc, ns)) d_M_rivalOf_3 ce_M_cutOf v_1755 v_1757 v_106 (by decide) rfl (Nat.le_of_ble_eq_true rfl) hC (Nat.le_refl _) (Nat.le_refl _) hc hs (fun j h9 => by cases h9) (fun _ _ => rfl) ?_
  show ab_E w (d + 1) mt_M_rivalOf 6 [.ref mx, .int v1, .int v2, .null, .null, .null] [.int r1] (I2, L, ab_RR, n, nc, ns) res
  refine ab_istore_n (i := 3) d_M_rivalOf_6 rfl (by decide) (Or.inr rfl) ?_
  refine ab_iconst (v := (-1)) d_M_rivalOf_7 rfl ?_
  refine ab_istore (i := 4) d_M_rivalOf_8 (by decide) (Or.inr rfl) ?_
  refine ab_iconst (v := 0) d_M_rivalOf_10 rfl ?_
  refine ab_istore (i := 5) d_M_rivalOf_11 (by decide) (Or.inr rfl) ?_
  exact h
theorem q_M_rivalOf_13 {w : ab_Wd} {d n nc ns : Nat} {I : Nat → Nat → Int32} {L : Nat → Nat → Int64} {res : ab_Re} (v1 : Int32) (v2 : Int32) (v3 : Int32) (v4 : Int32) (v5 : Int32) (hc : nc ≤ res.2.2.2.2.2.1) (hs : ns ≤ res.2.2.2.2.2.2)
    (h : ∃ (r1 : Int32), ab_C w d mt_M_many [.ref mx] (I, L, ab_RR, n, nc, ns) (.inl (some (.int r1)), (I, L, ab_RR, n, nc, ns)) ∧ ((r1 ≤ v5 → (res = (.inl (some (.int v4)), (I, L, ab_RR, n, nc, ns)))) ∧ (¬ r1 ≤ v5 → ((v5 = v2 → (ab_E w (d + 1) mt_M_rivalOf 100 [.ref mx, .int v1, .int v2, .int v3, .int v4, .int v5] [] (I, L, ab_RR, n, nc, ns) res)) ∧ (¬ v5 = v2 → (∃ (r4 : Int32), ab_C w d mt_M_isSound [.ref mx, .int v5] (I, L, ab_RR, n, nc, ns) (.inl (some (.int r4)), (I, L, ab_RR, n, nc, ns)) ∧ ((r4 = 0 → (ab_E w (d + 1) mt_M_rivalOf 100 [.ref mx, .int v1, .int v2, .int v3, .int v4, .int v5] [] (I, L, ab_RR, n, nc, ns) res)) ∧ (¬ r4 = 0 → ((v3 = 0 → (ab_E w (d + 1) mt_M_rivalOf 100 [.ref mx, .int v1, .int v2, .int v3, .int v4, .int v5] [] (I, L, ab_RR, n, nc, ns) res)) ∧ (¬ v3 = 0 → ((vp_in (3 + v5) 399) ∧ ∃ (r8 : Int32), ab_C w d mt_M_has [.int v3, .int (I mx_now (3 + v5).toNatClampNeg)] (I, L, ab_RR, n, nc, ns) (.inl (some (.int r8)), (I, L, ab_RR, n, nc, ns)) ∧ (vp_in (27 + v5) 399) ∧ ∃ (r10 : Int32), ab_C w d mt_M_has [.int v3, .int (I mx_now (27 + v5).toNatClampNeg)] (I, L, ab_RR, n, nc, ns) (.inl (some (.int r10)), (I, L, ab_RR, n, nc, ns)) ∧ ((¬ r8 = r10 → ((v4 = (-1) → (ab_E w (d + 1) mt_M_rivalOf 91 [.ref mx, .int v1, .int v2, .int v3, .int v4, .int v5] [] (I, L, ab_RR, n, nc, ns) res)) ∧ (¬ v4 = (-1) → (∃ (r13 : Int32), ab_C w d mt_M_isCheaper [.ref mx, .int v5, .int v4] (I, L, ab_RR, n, nc, ns) (.inl (some (.int r13)), (I, L, ab_RR, n, nc, ns)) ∧ ((r13 = 0 → (ab_E w (d + 1) mt_M_rivalOf 98 [.ref mx, .int v1, .int v2, .int v3, .int v4, .int v5] [.int v4] (I, L, ab_RR, n, nc, ns) res)) ∧ (¬ r13 = 0 → (ab_E w (d + 1) mt_M_rivalOf 91 [.ref mx, .int v1, .int v2, .int v3, .int v4, .int v5] [] (I, L, ab_RR, n, nc, ns) res))))))) ∧ (r8 = r10 → (ab_E w (d + 1) mt_M_rivalOf 100 [.ref mx, .int v1, .int v2, .int v3, .int v4, .int v5] [] (I, L, ab_RR, n, nc, ns) res)))))))))))))) : ab_E w (d + 1) mt_M_rivalOf 13 [.ref mx, .int v1, .int v2, .int v3, .int v4, .int v5] [] (I, L, ab_RR, n, nc, ns) res := by
  refine ab_iload (i := 5) d_M_rivalOf_13 rfl ?_
  refine ab_aload_n (i := 0) d_M_rivalOf_15 rfl rfl ?_
  obtain ⟨r1, hC, h⟩ := h
  refine ab_callV (me2 := mt_M_many) (b := mx) (as := []) (st := [.int v5]) (rv := (some (.int r1))) (M2 := (I, L, ab_RR, n, nc, ns)) d_M_rivalOf_16 ce_M_many v_1635 v_1637 v_79 (by decide) rfl (Nat.le_of_ble_eq_true rfl) hC (Nat.le_refl _) (Nat.le_refl _) hc hs (fun j h9 => by cases h9) (fun _ _ => rfl) ?_
  show ab_E w (d + 1) mt_M_rivalOf 19 [.ref mx, .int v1, .int v2, .int v3, .int v4, .int v5] [.int r1, .int v5] (I, L, ab_RR, n, nc, ns) res
  refine ab_icmp_ge (tgt := 106) d_M_rivalOf_19 (by decide) (fun c2 => ?_) (fun c2 => ?_)
  · have h := h.1 c2
    refine ab_iload (i := 4) d_M_rivalOf_106 rfl ?_
    exact ab_iret (ty := .int) d_M_rivalOf_108 rfl rfl h
  · have h := h.2 c2
    refine ab_iload (i := 5) d_M_rivalOf_22 rfl ?_
    refine ab_iload_n (i := 2) d_M_rivalOf_24 rfl rfl ?_
    refine ab_icmp_eq (tgt := 100) d_M_rivalOf_25 (by decide) (fun c3 => ?_) (fun c3 => ?_)
    · have h := h.1 c3
      exact h
    · have h := h.2 c3
      refine ab_aload_n (i := 0) d_M_rivalOf_28 rfl rfl ?_
      refine ab_iload (i := 5) d_M_rivalOf_29 rfl ?_
      obtain ⟨r4, hC, h⟩ := h
      refine ab_callV (me2 := mt_M_isSound) (b := mx) (as := [.int v5]) (st := []) (rv := (some (.int r4))) (M2 := (I, L, ab_RR, n, nc, ns)) d_M_rivalOf_31 ce_M_isSound v_1679 v_1681 v_89 (by decide) rfl (Nat.le_of_ble_eq_true rfl) hC (Nat.le_refl _) (Nat.le_refl _) hc hs (fun j h9 => by cases h9) (fun _ _ => rfl) ?_
      show ab_E w (d + 1) mt_M_rivalOf 34 [.ref mx, .int v1, .int v2, .int v3, .int v4, .int v5] [.int r4] (I, L, ab_RR, n, nc, ns) res
      refine ab_if_eq (tgt := 100) d_M_rivalOf_34 (by decide) (fun c5 => ?_) (fun c5 => ?_)
      · have h := h.1 c5
        exact h
      · have h := h.2 c5
        refine ab_iload_n (i := 3) d_M_rivalOf_37 rfl rfl ?_
        refine ab_if_eq (tgt := 100) d_M_rivalOf_38 (by decide) (fun c6 => ?_) (fun c6 => ?_)
        · have h := h.1 c6
          exact h
        · have h := h.2 c6
          refine ab_iload_n (i := 3) d_M_rivalOf_41 rfl rfl ?_
          refine ab_aload_n (i := 0) d_M_rivalOf_42 rfl rfl ?_
          refine ab_getR (ci := 11) (k := 4) (j := mx_now) d_M_rivalOf_43 v_1372 rfl (by decide) (by decide) rfl r_mx_4 ?_
          refine ab_iconst (v := 3) d_M_rivalOf_46 rfl ?_
          refine ab_iload (i := 5) d_M_rivalOf_47 rfl ?_
          refine ab_iadd d_M_rivalOf_49 ?_
          have g7 := h.1; have h := h.2
          refine ab_iald d_M_rivalOf_50 rfl rfl g7 ?_
          obtain ⟨r8, hC, h⟩ := h
          refine ab_callS (me2 := mt_M_has) (as := [.int v3, .int (I mx_now (3 + v5).toNatClampNeg)]) (st := []) (rv := (some (.int r8))) (M2 := (I, L, ab_RR, n, nc, ns)) d_M_rivalOf_51 ce_M_has ⟨v_1648, Or.inl v_1647⟩ (Nat.le_of_ble_eq_true rfl) hC (Nat.le_refl _) (Nat.le_refl _) hc hs (fun j h9 => by cases h9) (fun _ _ => rfl) ?_
          show ab_E w (d + 1) mt_M_rivalOf 54 [.ref mx, .int v1, .int v2, .int v3, .int v4, .int v5] [.int r8] (I, L, ab_RR, n, nc, ns) res
          refine ab_iload_n (i := 3) d_M_rivalOf_54 rfl rfl ?_
          refine ab_aload_n (i := 0) d_M_rivalOf_55 rfl rfl ?_
          refine ab_getR (ci := 11) (k := 4) (j := mx_now) d_M_rivalOf_56 v_1372 rfl (by decide) (by decide) rfl r_mx_4 ?_
          refine ab_bipush (v := 27) d_M_rivalOf_59 rfl ?_
          refine ab_iload (i := 5) d_M_rivalOf_61 rfl ?_
          refine ab_iadd d_M_rivalOf_63 ?_
          have g9 := h.1; have h := h.2
          refine ab_iald d_M_rivalOf_64 rfl rfl g9 ?_
          obtain ⟨r10, hC, h⟩ := h
          refine ab_callS (me2 := mt_M_has) (as := [.int v3, .int (I mx_now (27 + v5).toNatClampNeg)]) (st := [.int r8]) (rv := (some (.int r10))) (M2 := (I, L, ab_RR, n, nc, ns)) d_M_rivalOf_65 ce_M_has ⟨v_1648, Or.inl v_1647⟩ (Nat.le_of_ble_eq_true rfl) hC (Nat.le_refl _) (Nat.le_refl _) hc hs (fun j h9 => by cases h9) (fun _ _ => rfl) ?_
          show ab_E w (d + 1) mt_M_rivalOf 68 [.ref mx, .int v1, .int v2, .int v3, .int v4, .int v5] [.int r10, .int r8] (I, L, ab_RR, n, nc, ns) res
          refine ab_icmp_ne (tgt := 74) d_M_rivalOf_68 (by decide) (fun c11 => ?_) (fun c11 => ?_)
          · have h := h.1 c11
            refine ab_iload (i := 4) d_M_rivalOf_74 rfl ?_
            refine ab_iconst (v := (-1)) d_M_rivalOf_76 rfl ?_
            refine ab_icmp_eq (tgt := 91) d_M_rivalOf_77 (by decide) (fun c12 => ?_) (fun c12 => ?_)
            · have h := h.1 c12
              exact h
            · have h := h.2 c12
              refine ab_aload_n (i := 0) d_M_rivalOf_80 rfl rfl ?_
              refine ab_iload (i := 5) d_M_rivalOf_81 rfl ?_
              refine ab_iload (i := 4) d_M_rivalOf_83 rfl ?_
              obtain ⟨r13, hC, h⟩ := h
              refine ab_callV (me2 := mt_M_isCheaper) (b := mx) (as := [.int v5, .int v4]) (st := []) (rv := (some (.int r13))) (M2 := (I, L, ab_RR, n, nc, ns)) d_M_rivalOf_85 ce_M_isCheaper v_1650 v_1652 v_82 (by decide) rfl (Nat.le_of_ble_eq_true rfl) hC (Nat.le_refl _) (Nat.le_refl _) hc hs (fun j h9 => by cases h9) (fun _ _ => rfl) ?_
              show ab_E w (d + 1) mt_M_rivalOf 88 [.ref mx, .int v1, .int v2, .int v3, .int v4, .int v5] [.int r13] (I, L, ab_RR, n, nc, ns) res
              refine ab_if_eq (tgt := 96) d_M_rivalOf_88 (by decide) (fun c14 => ?_) (fun c14 => ?_)
              · have h := h.1 c14
                refine ab_iload (i := 4) d_M_rivalOf_96 rfl ?_
                exact h
              · have h := h.2 c14
                exact h
          · have h := h.2 c11
            refine ab_goto (tgt := 100) d_M_rivalOf_71 (by decide) ?_
            exact h
theorem q_M_rivalOf_91 {w : ab_Wd} {d n nc ns : Nat} {I : Nat → Nat → Int32} {L : Nat → Nat → Int64} {res : ab_Re} (v1 : Int32) (v2 : Int32) (v3 : Int32) (v4 : Int32) (v5 : Int32) (hc : nc ≤ res.2.2.2.2.2.1) (hs : ns ≤ res.2.2.2.2.2.2)
    (h : ab_E w (d + 1) mt_M_rivalOf 98 [.ref mx, .int v1, .int v2, .int v3, .int v4, .int v5] [.int v5] (I, L, ab_RR, n, nc, ns) res) : ab_E w (d + 1) mt_M_rivalOf 91 [.ref mx, .int v1, .int v2, .int v3, .int v4, .int v5] [] (I, L, ab_RR, n, nc, ns) res := by
  refine ab_iload (i := 5) d_M_rivalOf_91 rfl ?_
  refine ab_goto (tgt := 98) d_M_rivalOf_93 (by decide) ?_
  exact h
theorem q_M_rivalOf_98 {w : ab_Wd} {d n nc ns : Nat} {I : Nat → Nat → Int32} {L : Nat → Nat → Int64} {res : ab_Re} (v1 : Int32) (v2 : Int32) (v3 : Int32) (v4 : Int32) (v5 : Int32) (s0 : Int32) (hc : nc ≤ res.2.2.2.2.2.1) (hs : ns ≤ res.2.2.2.2.2.2)
    (h : ab_E w (d + 1) mt_M_rivalOf 100 [.ref mx, .int v1, .int v2, .int v3, .int s0, .int v5] [] (I, L, ab_RR, n, nc, ns) res) : ab_E w (d + 1) mt_M_rivalOf 98 [.ref mx, .int v1, .int v2, .int v3, .int v4, .int v5] [.int s0] (I, L, ab_RR, n, nc, ns) res := by
  refine ab_istore (i := 4) d_M_rivalOf_98 (by decide) (Or.inr rfl) ?_
  exact h
theorem q_M_rivalOf_100 {w : ab_Wd} {d n nc ns : Nat} {I : Nat → Nat → Int32} {L : Nat → Nat → Int64} {res : ab_Re} (v1 : Int32) (v2 : Int32) (v3 : Int32) (v4 : Int32) (v5 : Int32) (hc : nc ≤ res.2.2.2.2.2.1) (hs : ns ≤ res.2.2.2.2.2.2)
    (h : ab_E w (d + 1) mt_M_rivalOf 13 [.ref mx, .int v1, .int v2, .int v3, .int v4, .int (v5 + 1)] [] (I, L, ab_RR, n, nc, ns) res) : ab_E w (d + 1) mt_M_rivalOf 100 [.ref mx, .int v1, .int v2, .int v3, .int v4, .int v5] [] (I, L, ab_RR, n, nc, ns) res := by
  refine ab_iinc (i := 5) (v := (v5 + 1)) d_M_rivalOf_100 rfl rfl (by decide) (Or.inr rfl) ?_
  refine ab_goto (tgt := 13) d_M_rivalOf_103 (by decide) ?_
  exact h
theorem d_M_barOf_0 : decode (ab_bc mt_M_barOf) 0 = .ok (.aload_n 0, 1) := by decide +kernel
theorem d_M_barOf_1 : decode (ab_bc mt_M_barOf) 1 = .ok (.iload_n 1, 1) := by decide +kernel
theorem d_M_barOf_2 : decode (ab_bc mt_M_barOf) 2 = .ok (.invokevirtual 262, 3) := by decide +kernel
theorem d_M_barOf_5 : decode (ab_bc mt_M_barOf) 5 = .ok (.ifCond .ne 5, 3) := by decide +kernel
theorem d_M_barOf_8 : decode (ab_bc mt_M_barOf) 8 = .ok (.iconst (-1), 1) := by decide +kernel
theorem d_M_barOf_9 : decode (ab_bc mt_M_barOf) 9 = .ok (.ireturn, 1) := by decide +kernel
theorem d_M_barOf_10 : decode (ab_bc mt_M_barOf) 10 = .ok (.aload_n 0, 1) := by decide +kernel
theorem d_M_barOf_11 : decode (ab_bc mt_M_barOf) 11 = .ok (.iload_n 1, 1) := by decide +kernel
theorem d_M_barOf_12 : decode (ab_bc mt_M_barOf) 12 = .ok (.invokevirtual 222, 3) := by decide +kernel
theorem d_M_barOf_15 : decode (ab_bc mt_M_barOf) 15 = .ok (.istore_n 2, 1) := by decide +kernel
theorem d_M_barOf_16 : decode (ab_bc mt_M_barOf) 16 = .ok (.iconst (-1), 1) := by decide +kernel
theorem d_M_barOf_17 : decode (ab_bc mt_M_barOf) 17 = .ok (.istore_n 3, 1) := by decide +kernel
theorem d_M_barOf_18 : decode (ab_bc mt_M_barOf) 18 = .ok (.sipush 999, 3) := by decide +kernel
theorem d_M_barOf_21 : decode (ab_bc mt_M_barOf) 21 = .ok (.istore 4, 2) := by decide +kernel
theorem d_M_barOf_23 : decode (ab_bc mt_M_barOf) 23 = .ok (.iload 4, 2) := by decide +kernel
theorem d_M_barOf_25 : decode (ab_bc mt_M_barOf) 25 = .ok (.ifCond .le 43, 3) := by decide +kernel
theorem d_M_barOf_28 : decode (ab_bc mt_M_barOf) 28 = .ok (.iload_n 3, 1) := by decide +kernel
theorem d_M_barOf_29 : decode (ab_bc mt_M_barOf) 29 = .ok (.iconst (-1), 1) := by decide +kernel
theorem d_M_barOf_30 : decode (ab_bc mt_M_barOf) 30 = .ok (.if_icmp .ne 38, 3) := by decide +kernel
theorem d_M_barOf_33 : decode (ab_bc mt_M_barOf) 33 = .ok (.aload_n 0, 1) := by decide +kernel
theorem d_M_barOf_34 : decode (ab_bc mt_M_barOf) 34 = .ok (.getfield 24, 3) := by decide +kernel
theorem d_M_barOf_37 : decode (ab_bc mt_M_barOf) 37 = .ok (.bipush 51, 2) := by decide +kernel
theorem d_M_barOf_39 : decode (ab_bc mt_M_barOf) 39 = .ok (.iload_n 1, 1) := by decide +kernel
theorem d_M_barOf_40 : decode (ab_bc mt_M_barOf) 40 = .ok (.iadd, 1) := by decide +kernel
theorem d_M_barOf_41 : decode (ab_bc mt_M_barOf) 41 = .ok (.iload 4, 2) := by decide +kernel
theorem d_M_barOf_43 : decode (ab_bc mt_M_barOf) 43 = .ok (.iastore, 1) := by decide +kernel
theorem d_M_barOf_44 : decode (ab_bc mt_M_barOf) 44 = .ok (.aload_n 0, 1) := by decide +kernel
theorem d_M_barOf_45 : decode (ab_bc mt_M_barOf) 45 = .ok (.invokevirtual 251, 3) := by decide +kernel
theorem d_M_barOf_48 : decode (ab_bc mt_M_barOf) 48 = .ok (.iload_n 1, 1) := by decide +kernel
theorem d_M_barOf_49 : decode (ab_bc mt_M_barOf) 49 = .ok (.invokestatic 237, 3) := by decide +kernel
theorem d_M_barOf_52 : decode (ab_bc mt_M_barOf) 52 = .ok (.ifCond .eq 8, 3) := by decide +kernel
theorem d_M_barOf_55 : decode (ab_bc mt_M_barOf) 55 = .ok (.iload 4, 2) := by decide +kernel
theorem d_M_barOf_57 : decode (ab_bc mt_M_barOf) 57 = .ok (.goto 4, 3) := by decide +kernel
theorem d_M_barOf_60 : decode (ab_bc mt_M_barOf) 60 = .ok (.iconst (-1), 1) := by decide +kernel
theorem d_M_barOf_61 : decode (ab_bc mt_M_barOf) 61 = .ok (.istore_n 3, 1) := by decide +kernel
theorem d_M_barOf_62 : decode (ab_bc mt_M_barOf) 62 = .ok (.iinc 4 (-1), 3) := by decide +kernel
theorem d_M_barOf_65 : decode (ab_bc mt_M_barOf) 65 = .ok (.goto (-42), 3) := by decide +kernel
theorem d_M_barOf_68 : decode (ab_bc mt_M_barOf) 68 = .ok (.aload_n 0, 1) := by decide +kernel
theorem d_M_barOf_69 : decode (ab_bc mt_M_barOf) 69 = .ok (.getfield 24, 3) := by decide +kernel
theorem d_M_barOf_72 : decode (ab_bc mt_M_barOf) 72 = .ok (.bipush 51, 2) := by decide +kernel
theorem d_M_barOf_74 : decode (ab_bc mt_M_barOf) 74 = .ok (.iload_n 1, 1) := by decide +kernel
theorem d_M_barOf_75 : decode (ab_bc mt_M_barOf) 75 = .ok (.iadd, 1) := by decide +kernel
theorem d_M_barOf_76 : decode (ab_bc mt_M_barOf) 76 = .ok (.iload_n 2, 1) := by decide +kernel
theorem d_M_barOf_77 : decode (ab_bc mt_M_barOf) 77 = .ok (.iastore, 1) := by decide +kernel
theorem d_M_barOf_78 : decode (ab_bc mt_M_barOf) 78 = .ok (.iload_n 3, 1) := by decide +kernel
theorem d_M_barOf_79 : decode (ab_bc mt_M_barOf) 79 = .ok (.ireturn, 1) := by decide +kernel
-- CableKeeperModel.barOf(I)I over mx
theorem q_M_barOf_0 {w : ab_Wd} {d n nc ns : Nat} {I : Nat → Nat → Int32} {L : Nat → Nat → Int64} {res : ab_Re} (v1 : Int32) (hc : nc ≤ res.2.2.2.2.2.1) (hs : ns ≤ res.2.2.2.2.2.2)
    (h : ∃ (r1 : Int32), ab_C w d mt_M_isSound [.ref mx, .int v1] (I, L, ab_RR, n, nc, ns) (.inl (some (.int r1)), (I, L, ab_RR, n, nc, ns)) ∧ ((¬ r1 = 0 → (∃ (r3 : Int32), ab_C w d mt_M_priceOf [.ref mx, .int v1] (I, L, ab_RR, n, nc, ns) (.inl (some (.int r3)), (I, L, ab_RR, n, nc, ns)) ∧ ab_E w (d + 1) mt_M_barOf 23 [.ref mx, .int v1, .int r3, .int (-1), .int 999] [] (I, L, ab_RR, n, nc, ns) res)) ∧ (r1 = 0 → (res = (.inl (some (.int (-1))), (I, L, ab_RR, n, nc, ns)))))) : ab_E w (d + 1) mt_M_barOf 0 [.ref mx, .int v1, .null, .null, .null] [] (I, L, ab_RR, n, nc, ns) res := by
  refine ab_aload_n (i := 0) d_M_barOf_0 rfl rfl ?_
  refine ab_iload_n (i := 1) d_M_barOf_1 rfl rfl ?_
  obtain ⟨r1, hC, h⟩ := h
  refine ab_callV (me2 := mt_M_isSound) (b := mx) (as := [.int v1]) (st := []) (rv := (some (.int r1))) (M2 := (I, L, ab_RR, n, nc, ns)) d_M_barOf_2 ce_M_isSound v_1679 v_1681 v_89 (by decide) rfl (Nat.le_of_ble_eq_true rfl) hC (Nat.le_refl _) (Nat.le_refl _) hc hs (fun j h9 => by cases h9) (fun _ _ => rfl) ?_
  show ab_E w (d + 1) mt_M_barOf 5 [.ref mx, .int v1, .null, .null, .null] [.int r1] (I, L, ab_RR, n, nc, ns) res
  refine ab_if_ne (tgt := 10) d_M_barOf_5 (by decide) (fun c2 => ?_) (fun c2 => ?_)
  · have h := h.1 c2
    refine ab_aload_n (i := 0) d_M_barOf_10 rfl rfl ?_
    refine ab_iload_n (i := 1) d_M_barOf_11 rfl rfl ?_
    obtain ⟨r3, hC, h⟩ := h
    refine ab_callV (me2 := mt_M_priceOf) (b := mx) (as := [.int v1]) (st := []) (rv := (some (.int r3))) (M2 := (I, L, ab_RR, n, nc, ns)) d_M_barOf_12 ce_M_priceOf v_1654 v_1656 v_83 (by decide) rfl (Nat.le_of_ble_eq_true rfl) hC (Nat.le_refl _) (Nat.le_refl _) hc hs (fun j h9 => by cases h9) (fun _ _ => rfl) ?_
    show ab_E w (d + 1) mt_M_barOf 15 [.ref mx, .int v1, .null, .null, .null] [.int r3] (I, L, ab_RR, n, nc, ns) res
    refine ab_istore_n (i := 2) d_M_barOf_15 rfl (by decide) (Or.inr rfl) ?_
    refine ab_iconst (v := (-1)) d_M_barOf_16 rfl ?_
    refine ab_istore_n (i := 3) d_M_barOf_17 rfl (by decide) (Or.inr rfl) ?_
    refine ab_sipush (v := 999) d_M_barOf_18 rfl ?_
    refine ab_istore (i := 4) d_M_barOf_21 (by decide) (Or.inr rfl) ?_
    exact h
  · have h := h.2 c2
    refine ab_iconst (v := (-1)) d_M_barOf_8 rfl ?_
    exact ab_iret (ty := .int) d_M_barOf_9 rfl rfl h
theorem q_M_barOf_23 {w : ab_Wd} {d n nc ns : Nat} {I : Nat → Nat → Int32} {L : Nat → Nat → Int64} {res : ab_Re} (v1 : Int32) (v2 : Int32) (v3 : Int32) (v4 : Int32) (hc : nc ≤ res.2.2.2.2.2.1) (hs : ns ≤ res.2.2.2.2.2.2)
    (h : ((v4 ≤ 0 → (ab_E w (d + 1) mt_M_barOf 68 [.ref mx, .int v1, .int v2, .int v3, .int v4] [] (I, L, ab_RR, n, nc, ns) res)) ∧ (¬ v4 ≤ 0 → ((¬ v3 = (-1) → (ab_E w (d + 1) mt_M_barOf 68 [.ref mx, .int v1, .int v2, .int v3, .int v4] [] (I, L, ab_RR, n, nc, ns) res)) ∧ (v3 = (-1) → ((vp_in (51 + v1) 399) ∧ ∃ (r4 : Int32) (I5 : Nat → Nat → Int32), ab_C w d mt_M_netNow [.ref mx] ((ab_up I mx_now (51 + v1).toNatClampNeg v4), L, ab_RR, n, nc, ns) (.inl (some (.int r4)), (I5, L, ab_RR, n, nc, ns)) ∧ ∃ (r6 : Int32), ab_C w d mt_M_has [.int r4, .int v1] (I5, L, ab_RR, n, nc, ns) (.inl (some (.int r6)), (I5, L, ab_RR, n, nc, ns)) ∧ ((r6 = 0 → (ab_E w (d + 1) mt_M_barOf 61 [.ref mx, .int v1, .int v2, .int v3, .int v4] [.int (-1)] (I5, L, ab_RR, n, nc, ns) res)) ∧ (¬ r6 = 0 → (ab_E w (d + 1) mt_M_barOf 61 [.ref mx, .int v1, .int v2, .int v3, .int v4] [.int v4] (I5, L, ab_RR, n, nc, ns) res))))))))) : ab_E w (d + 1) mt_M_barOf 23 [.ref mx, .int v1, .int v2, .int v3, .int v4] [] (I, L, ab_RR, n, nc, ns) res := by
  refine ab_iload (i := 4) d_M_barOf_23 rfl ?_
  refine ab_if_le (tgt := 68) d_M_barOf_25 (by decide) (fun c1 => ?_) (fun c1 => ?_)
  · have h := h.1 c1
    exact h
  · have h := h.2 c1
    refine ab_iload_n (i := 3) d_M_barOf_28 rfl rfl ?_
    refine ab_iconst (v := (-1)) d_M_barOf_29 rfl ?_
    refine ab_icmp_ne (tgt := 68) d_M_barOf_30 (by decide) (fun c2 => ?_) (fun c2 => ?_)
    · have h := h.1 c2
      exact h
    · have h := h.2 c2
      refine ab_aload_n (i := 0) d_M_barOf_33 rfl rfl ?_
      refine ab_getR (ci := 11) (k := 4) (j := mx_now) d_M_barOf_34 v_1372 rfl (by decide) (by decide) rfl r_mx_4 ?_
      refine ab_bipush (v := 51) d_M_barOf_37 rfl ?_
      refine ab_iload_n (i := 1) d_M_barOf_39 rfl rfl ?_
      refine ab_iadd d_M_barOf_40 ?_
      refine ab_iload (i := 4) d_M_barOf_41 rfl ?_
      have g3 := h.1; have h := h.2
      refine ab_iast d_M_barOf_43 rfl rfl g3 ?_
      refine ab_aload_n (i := 0) d_M_barOf_44 rfl rfl ?_
      obtain ⟨r4, I5, hC, h⟩ := h
      refine ab_callV (me2 := mt_M_netNow) (b := mx) (as := []) (st := []) (rv := (some (.int r4))) (M2 := (I5, L, ab_RR, n, nc, ns)) d_M_barOf_45 ce_M_netNow v_1639 v_1641 v_80 (by decide) rfl (Nat.le_of_ble_eq_true rfl) hC (Nat.le_refl _) (Nat.le_refl _) hc hs (fun j h9 => by cases h9) (fun _ _ => rfl) ?_
      show ab_E w (d + 1) mt_M_barOf 48 [.ref mx, .int v1, .int v2, .int v3, .int v4] [.int r4] (I5, L, ab_RR, n, nc, ns) res
      refine ab_iload_n (i := 1) d_M_barOf_48 rfl rfl ?_
      obtain ⟨r6, hC, h⟩ := h
      refine ab_callS (me2 := mt_M_has) (as := [.int r4, .int v1]) (st := []) (rv := (some (.int r6))) (M2 := (I5, L, ab_RR, n, nc, ns)) d_M_barOf_49 ce_M_has ⟨v_1648, Or.inl v_1647⟩ (Nat.le_of_ble_eq_true rfl) hC (Nat.le_refl _) (Nat.le_refl _) hc hs (fun j h9 => by cases h9) (fun _ _ => rfl) ?_
      show ab_E w (d + 1) mt_M_barOf 52 [.ref mx, .int v1, .int v2, .int v3, .int v4] [.int r6] (I5, L, ab_RR, n, nc, ns) res
      refine ab_if_eq (tgt := 60) d_M_barOf_52 (by decide) (fun c7 => ?_) (fun c7 => ?_)
      · have h := h.1 c7
        refine ab_iconst (v := (-1)) d_M_barOf_60 rfl ?_
        exact h
      · have h := h.2 c7
        refine ab_iload (i := 4) d_M_barOf_55 rfl ?_
        refine ab_goto (tgt := 61) d_M_barOf_57 (by decide) ?_
        exact h
theorem q_M_barOf_61 {w : ab_Wd} {d n nc ns : Nat} {I : Nat → Nat → Int32} {L : Nat → Nat → Int64} {res : ab_Re} (v1 : Int32) (v2 : Int32) (v3 : Int32) (v4 : Int32) (s0 : Int32) (hc : nc ≤ res.2.2.2.2.2.1) (hs : ns ≤ res.2.2.2.2.2.2)
    (h : ab_E w (d + 1) mt_M_barOf 23 [.ref mx, .int v1, .int v2, .int s0, .int (v4 + (-1))] [] (I, L, ab_RR, n, nc, ns) res) : ab_E w (d + 1) mt_M_barOf 61 [.ref mx, .int v1, .int v2, .int v3, .int v4] [.int s0] (I, L, ab_RR, n, nc, ns) res := by
  refine ab_istore_n (i := 3) d_M_barOf_61 rfl (by decide) (Or.inr rfl) ?_
  refine ab_iinc (i := 4) (v := (v4 + (-1))) d_M_barOf_62 rfl rfl (by decide) (Or.inr rfl) ?_
  refine ab_goto (tgt := 23) d_M_barOf_65 (by decide) ?_
  exact h
theorem q_M_barOf_68 {w : ab_Wd} {d n nc ns : Nat} {I : Nat → Nat → Int32} {L : Nat → Nat → Int64} {res : ab_Re} (v1 : Int32) (v2 : Int32) (v3 : Int32) (v4 : Int32) (hc : nc ≤ res.2.2.2.2.2.1) (hs : ns ≤ res.2.2.2.2.2.2)
    (h : (vp_in (51 + v1) 399) ∧ res = (.inl (some (.int v3)), ((ab_up I mx_now (51 + v1).toNatClampNeg v2), L, ab_RR, n, nc, ns))) : ab_E w (d + 1) mt_M_barOf 68 [.ref mx, .int v1, .int v2, .int v3, .int v4] [] (I, L, ab_RR, n, nc, ns) res := by
  refine ab_aload_n (i := 0) d_M_barOf_68 rfl rfl ?_
  refine ab_getR (ci := 11) (k := 4) (j := mx_now) d_M_barOf_69 v_1372 rfl (by decide) (by decide) rfl r_mx_4 ?_
  refine ab_bipush (v := 51) d_M_barOf_72 rfl ?_
  refine ab_iload_n (i := 1) d_M_barOf_74 rfl rfl ?_
  refine ab_iadd d_M_barOf_75 ?_
  refine ab_iload_n (i := 2) d_M_barOf_76 rfl rfl ?_
  have g1 := h.1; have h := h.2
  refine ab_iast d_M_barOf_77 rfl rfl g1 ?_
  refine ab_iload_n (i := 3) d_M_barOf_78 rfl rfl ?_
  exact ab_iret (ty := .int) d_M_barOf_79 rfl rfl h
theorem d_M_lossOf_0 : decode (ab_bc mt_M_lossOf) 0 = .ok (.aload_n 0, 1) := by decide +kernel
theorem d_M_lossOf_1 : decode (ab_bc mt_M_lossOf) 1 = .ok (.invokevirtual 251, 3) := by decide +kernel
theorem d_M_lossOf_4 : decode (ab_bc mt_M_lossOf) 4 = .ok (.istore_n 2, 1) := by decide +kernel
theorem d_M_lossOf_5 : decode (ab_bc mt_M_lossOf) 5 = .ok (.aload_n 0, 1) := by decide +kernel
theorem d_M_lossOf_6 : decode (ab_bc mt_M_lossOf) 6 = .ok (.getfield 231, 3) := by decide +kernel
theorem d_M_lossOf_9 : decode (ab_bc mt_M_lossOf) 9 = .ok (.istore_n 3, 1) := by decide +kernel
theorem d_M_lossOf_10 : decode (ab_bc mt_M_lossOf) 10 = .ok (.aload_n 0, 1) := by decide +kernel
theorem d_M_lossOf_11 : decode (ab_bc mt_M_lossOf) 11 = .ok (.invokevirtual 254, 3) := by decide +kernel
theorem d_M_lossOf_14 : decode (ab_bc mt_M_lossOf) 14 = .ok (.istore 4, 2) := by decide +kernel
theorem d_M_lossOf_16 : decode (ab_bc mt_M_lossOf) 16 = .ok (.aload_n 0, 1) := by decide +kernel
theorem d_M_lossOf_17 : decode (ab_bc mt_M_lossOf) 17 = .ok (.aload_n 0, 1) := by decide +kernel
theorem d_M_lossOf_18 : decode (ab_bc mt_M_lossOf) 18 = .ok (.getfield 24, 3) := by decide +kernel
theorem d_M_lossOf_21 : decode (ab_bc mt_M_lossOf) 21 = .ok (.iconst 1, 1) := by decide +kernel
theorem d_M_lossOf_22 : decode (ab_bc mt_M_lossOf) 22 = .ok (.iaload, 1) := by decide +kernel
theorem d_M_lossOf_23 : decode (ab_bc mt_M_lossOf) 23 = .ok (.iload_n 1, 1) := by decide +kernel
theorem d_M_lossOf_24 : decode (ab_bc mt_M_lossOf) 24 = .ok (.iconst (-1), 1) := by decide +kernel
theorem d_M_lossOf_25 : decode (ab_bc mt_M_lossOf) 25 = .ok (.ixor, 1) := by decide +kernel
theorem d_M_lossOf_26 : decode (ab_bc mt_M_lossOf) 26 = .ok (.iand, 1) := by decide +kernel
theorem d_M_lossOf_27 : decode (ab_bc mt_M_lossOf) 27 = .ok (.invokevirtual 248, 3) := by decide +kernel
theorem d_M_lossOf_30 : decode (ab_bc mt_M_lossOf) 30 = .ok (.istore 5, 2) := by decide +kernel
theorem d_M_lossOf_32 : decode (ab_bc mt_M_lossOf) 32 = .ok (.aload_n 0, 1) := by decide +kernel
theorem d_M_lossOf_33 : decode (ab_bc mt_M_lossOf) 33 = .ok (.invokevirtual 254, 3) := by decide +kernel
theorem d_M_lossOf_36 : decode (ab_bc mt_M_lossOf) 36 = .ok (.iload 4, 2) := by decide +kernel
theorem d_M_lossOf_38 : decode (ab_bc mt_M_lossOf) 38 = .ok (.if_icmp .le 7, 3) := by decide +kernel
theorem d_M_lossOf_41 : decode (ab_bc mt_M_lossOf) 41 = .ok (.iconst (-1), 1) := by decide +kernel
theorem d_M_lossOf_42 : decode (ab_bc mt_M_lossOf) 42 = .ok (.goto 9, 3) := by decide +kernel
theorem d_M_lossOf_45 : decode (ab_bc mt_M_lossOf) 45 = .ok (.aload_n 0, 1) := by decide +kernel
theorem d_M_lossOf_46 : decode (ab_bc mt_M_lossOf) 46 = .ok (.getfield 231, 3) := by decide +kernel
theorem d_M_lossOf_49 : decode (ab_bc mt_M_lossOf) 49 = .ok (.iload_n 3, 1) := by decide +kernel
theorem d_M_lossOf_50 : decode (ab_bc mt_M_lossOf) 50 = .ok (.isub, 1) := by decide +kernel
theorem d_M_lossOf_51 : decode (ab_bc mt_M_lossOf) 51 = .ok (.ireturn, 1) := by decide +kernel
-- CableKeeperModel.lossOf(I)I over mx
theorem q_M_lossOf_0 {w : ab_Wd} {d n nc ns : Nat} {I : Nat → Nat → Int32} {L : Nat → Nat → Int64} {res : ab_Re} (v1 : Int32) (hc : nc ≤ res.2.2.2.2.2.1) (hs : ns ≤ res.2.2.2.2.2.2)
    (h : ∃ (r1 : Int32) (I2 : Nat → Nat → Int32), ab_C w d mt_M_netNow [.ref mx] (I, L, ab_RR, n, nc, ns) (.inl (some (.int r1)), (I2, L, ab_RR, n, nc, ns)) ∧ ∃ (r3 : Int32), ab_C w d mt_M_pieces [.ref mx] (I2, L, ab_RR, n, nc, ns) (.inl (some (.int r3)), (I2, L, ab_RR, n, nc, ns)) ∧ ∃ (r4 : Int32) (I5 : Nat → Nat → Int32), ab_C w d mt_M_netOf [.ref mx, .int ((I2 mx_now 1) &&& (v1 ^^^ (-1)))] (I2, L, ab_RR, n, nc, ns) (.inl (some (.int r4)), (I5, L, ab_RR, n, nc, ns)) ∧ ∃ (r6 : Int32), ab_C w d mt_M_pieces [.ref mx] (I5, L, ab_RR, n, nc, ns) (.inl (some (.int r6)), (I5, L, ab_RR, n, nc, ns)) ∧ ((r6 ≤ r3 → (ab_E w (d + 1) mt_M_lossOf 51 [.ref mx, .int v1, .int r1, .int (I2 mx 22), .int r3, .int r4] [.int ((I5 mx 22) - (I2 mx 22))] (I5, L, ab_RR, n, nc, ns) res)) ∧ (¬ r6 ≤ r3 → (ab_E w (d + 1) mt_M_lossOf 51 [.ref mx, .int v1, .int r1, .int (I2 mx 22), .int r3, .int r4] [.int (-1)] (I5, L, ab_RR, n, nc, ns) res)))) : ab_E w (d + 1) mt_M_lossOf 0 [.ref mx, .int v1, .null, .null, .null, .null] [] (I, L, ab_RR, n, nc, ns) res := by
  refine ab_aload_n (i := 0) d_M_lossOf_0 rfl rfl ?_
  obtain ⟨r1, I2, hC, h⟩ := h
  refine ab_callV (me2 := mt_M_netNow) (b := mx) (as := []) (st := []) (rv := (some (.int r1))) (M2 := (I2, L, ab_RR, n, nc, ns)) d_M_lossOf_1 ce_M_netNow v_1639 v_1641 v_80 (by decide) rfl (Nat.le_of_ble_eq_true rfl) hC (Nat.le_refl _) (Nat.le_refl _) hc hs (fun j h9 => by cases h9) (fun _ _ => rfl) ?_
  show ab_E w (d + 1) mt_M_lossOf 4 [.ref mx, .int v1, .null, .null, .null, .null] [.int r1] (I2, L, ab_RR, n, nc, ns) res
  refine ab_istore_n (i := 2) d_M_lossOf_4 rfl (by decide) (Or.inr rfl) ?_
  refine ab_aload_n (i := 0) d_M_lossOf_5 rfl rfl ?_
  refine ab_getI (ci := 11) (k := 22) d_M_lossOf_6 v_1390 rfl (by decide) (by decide) rfl ?_
  refine ab_istore_n (i := 3) d_M_lossOf_9 rfl (by decide) (Or.inr rfl) ?_
  refine ab_aload_n (i := 0) d_M_lossOf_10 rfl rfl ?_
  obtain ⟨r3, hC, h⟩ := h
  refine ab_callV (me2 := mt_M_pieces) (b := mx) (as := []) (st := []) (rv := (some (.int r3))) (M2 := (I2, L, ab_RR, n, nc, ns)) d_M_lossOf_11 ce_M_pieces v_1671 v_1673 v_87 (by decide) rfl (Nat.le_of_ble_eq_true rfl) hC (Nat.le_refl _) (Nat.le_refl _) hc hs (fun j h9 => by cases h9) (fun _ _ => rfl) ?_
  show ab_E w (d + 1) mt_M_lossOf 14 [.ref mx, .int v1, .int r1, .int (I2 mx 22), .null, .null] [.int r3] (I2, L, ab_RR, n, nc, ns) res
  refine ab_istore (i := 4) d_M_lossOf_14 (by decide) (Or.inr rfl) ?_
  refine ab_aload_n (i := 0) d_M_lossOf_16 rfl rfl ?_
  refine ab_aload_n (i := 0) d_M_lossOf_17 rfl rfl ?_
  refine ab_getR (ci := 11) (k := 4) (j := mx_now) d_M_lossOf_18 v_1372 rfl (by decide) (by decide) rfl r_mx_4 ?_
  refine ab_iconst (v := 1) d_M_lossOf_21 rfl ?_
  refine ab_iald d_M_lossOf_22 rfl rfl (by unfold vp_in; decide) ?_
  refine ab_iload_n (i := 1) d_M_lossOf_23 rfl rfl ?_
  refine ab_iconst (v := (-1)) d_M_lossOf_24 rfl ?_
  refine ab_ixor d_M_lossOf_25 ?_
  refine ab_iand d_M_lossOf_26 ?_
  obtain ⟨r4, I5, hC, h⟩ := h
  refine ab_callV (me2 := mt_M_netOf) (b := mx) (as := [.int ((I2 mx_now 1) &&& (v1 ^^^ (-1)))]) (st := []) (rv := (some (.int r4))) (M2 := (I5, L, ab_RR, n, nc, ns)) d_M_lossOf_27 ce_M_netOf v_1643 v_1645 v_81 (by decide) rfl (Nat.le_of_ble_eq_true rfl) hC (Nat.le_refl _) (Nat.le_refl _) hc hs (fun j h9 => by cases h9) (fun _ _ => rfl) ?_
  show ab_E w (d + 1) mt_M_lossOf 30 [.ref mx, .int v1, .int r1, .int (I2 mx 22), .int r3, .null] [.int r4] (I5, L, ab_RR, n, nc, ns) res
  refine ab_istore (i := 5) d_M_lossOf_30 (by decide) (Or.inr rfl) ?_
  refine ab_aload_n (i := 0) d_M_lossOf_32 rfl rfl ?_
  obtain ⟨r6, hC, h⟩ := h
  refine ab_callV (me2 := mt_M_pieces) (b := mx) (as := []) (st := []) (rv := (some (.int r6))) (M2 := (I5, L, ab_RR, n, nc, ns)) d_M_lossOf_33 ce_M_pieces v_1671 v_1673 v_87 (by decide) rfl (Nat.le_of_ble_eq_true rfl) hC (Nat.le_refl _) (Nat.le_refl _) hc hs (fun j h9 => by cases h9) (fun _ _ => rfl) ?_
  show ab_E w (d + 1) mt_M_lossOf 36 [.ref mx, .int v1, .int r1, .int (I2 mx 22), .int r3, .int r4] [.int r6] (I5, L, ab_RR, n, nc, ns) res
  refine ab_iload (i := 4) d_M_lossOf_36 rfl ?_
  refine ab_icmp_le (tgt := 45) d_M_lossOf_38 (by decide) (fun c7 => ?_) (fun c7 => ?_)
  · have h := h.1 c7
    refine ab_aload_n (i := 0) d_M_lossOf_45 rfl rfl ?_
    refine ab_getI (ci := 11) (k := 22) d_M_lossOf_46 v_1390 rfl (by decide) (by decide) rfl ?_
    refine ab_iload_n (i := 3) d_M_lossOf_49 rfl rfl ?_
    refine ab_isub d_M_lossOf_50 ?_
    exact h
  · have h := h.2 c7
    refine ab_iconst (v := (-1)) d_M_lossOf_41 rfl ?_
    refine ab_goto (tgt := 51) d_M_lossOf_42 (by decide) ?_
    exact h
theorem q_M_lossOf_51 {w : ab_Wd} {d n nc ns : Nat} {I : Nat → Nat → Int32} {L : Nat → Nat → Int64} {res : ab_Re} (v1 : Int32) (v2 : Int32) (v3 : Int32) (v4 : Int32) (v5 : Int32) (s0 : Int32) (hc : nc ≤ res.2.2.2.2.2.1) (hs : ns ≤ res.2.2.2.2.2.2)
    (h : res = (.inl (some (.int s0)), (I, L, ab_RR, n, nc, ns))) : ab_E w (d + 1) mt_M_lossOf 51 [.ref mx, .int v1, .int v2, .int v3, .int v4, .int v5] [.int s0] (I, L, ab_RR, n, nc, ns) res := by
  exact ab_iret (ty := .int) d_M_lossOf_51 rfl rfl h
