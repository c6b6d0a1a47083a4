theorem d_M_thrown_0 : decode (ab_bc mt_M_thrown) 0 = .ok (.aload_n 0, 1) := by decide +kernel
theorem d_M_thrown_1 : decode (ab_bc mt_M_thrown) 1 = .ok (.getfield 108, 3) := by decide +kernel
theorem d_M_thrown_4 : decode (ab_bc mt_M_thrown) 4 = .ok (.ireturn, 1) := by decide +kernel
-- CableKeeperModel.thrown()I over mx
theorem q_M_thrown_0 {w : ab_Wd} {d n nc ns : Nat} {I : Nat → Nat → Int32} {L : Nat → Nat → Int64} {res : ab_Re}  (hc : nc ≤ res.2.2.2.2.2.1) (hs : ns ≤ res.2.2.2.2.2.2)
    (h : res = (.inl (some (.int (I mx 1))), (I, L, ab_RR, n, nc, ns))) : ab_E w d mt_M_thrown 0 [.ref mx] [] (I, L, ab_RR, n, nc, ns) res := by
  refine ab_aload_n (i := 0) d_M_thrown_0 rfl rfl ?_
  refine ab_getI (ci := 11) (k := 1) d_M_thrown_1 v_1369 rfl (by decide) (by decide) rfl ?_
  exact ab_iret (ty := .int) d_M_thrown_4 rfl rfl h
theorem d_M_fail_0 : decode (ab_bc mt_M_fail) 0 = .ok (.aload_n 0, 1) := by decide +kernel
theorem d_M_fail_1 : decode (ab_bc mt_M_fail) 1 = .ok (.iload_n 1, 1) := by decide +kernel
theorem d_M_fail_2 : decode (ab_bc mt_M_fail) 2 = .ok (.putfield 108, 3) := by decide +kernel
theorem d_M_fail_5 : decode (ab_bc mt_M_fail) 5 = .ok (.iconst 0, 1) := by decide +kernel
theorem d_M_fail_6 : decode (ab_bc mt_M_fail) 6 = .ok (.ireturn, 1) := by decide +kernel
-- CableKeeperModel.fail(I)I over mx
theorem q_M_fail_0 {w : ab_Wd} {d n nc ns : Nat} {I : Nat → Nat → Int32} {L : Nat → Nat → Int64} {res : ab_Re} (v1 : Int32) (hc : nc ≤ res.2.2.2.2.2.1) (hs : ns ≤ res.2.2.2.2.2.2)
    (h : res = (.inl (some (.int 0)), ((ab_up I mx 1 v1), L, ab_RR, n, nc, ns))) : ab_E w d mt_M_fail 0 [.ref mx, .int v1] [] (I, L, ab_RR, n, nc, ns) res := by
  refine ab_aload_n (i := 0) d_M_fail_0 rfl rfl ?_
  refine ab_iload_n (i := 1) d_M_fail_1 rfl rfl ?_
  refine ab_putI (ci := 11) (k := 1) d_M_fail_2 v_1369 rfl (by decide) (by decide) rfl (Or.inl rfl) rfl rfl ?_
  refine ab_iconst (v := 0) d_M_fail_5 rfl ?_
  exact ab_iret (ty := .int) d_M_fail_6 rfl rfl h
theorem d_M_feed_0 : decode (ab_bc mt_M_feed) 0 = .ok (.aload_n 0, 1) := by decide +kernel
theorem d_M_feed_1 : decode (ab_bc mt_M_feed) 1 = .ok (.iconst 0, 1) := by decide +kernel
theorem d_M_feed_2 : decode (ab_bc mt_M_feed) 2 = .ok (.putfield 108, 3) := by decide +kernel
theorem d_M_feed_5 : decode (ab_bc mt_M_feed) 5 = .ok (.aload_n 0, 1) := by decide +kernel
theorem d_M_feed_6 : decode (ab_bc mt_M_feed) 6 = .ok (.getfield 111, 3) := by decide +kernel
theorem d_M_feed_9 : decode (ab_bc mt_M_feed) 9 = .ok (.bipush 20, 2) := by decide +kernel
theorem d_M_feed_11 : decode (ab_bc mt_M_feed) 11 = .ok (.iadd, 1) := by decide +kernel
theorem d_M_feed_12 : decode (ab_bc mt_M_feed) 12 = .ok (.sipush 700, 3) := by decide +kernel
theorem d_M_feed_15 : decode (ab_bc mt_M_feed) 15 = .ok (.if_icmp .le 5, 3) := by decide +kernel
theorem d_M_feed_18 : decode (ab_bc mt_M_feed) 18 = .ok (.iconst (-1), 1) := by decide +kernel
theorem d_M_feed_19 : decode (ab_bc mt_M_feed) 19 = .ok (.ireturn, 1) := by decide +kernel
theorem d_M_feed_20 : decode (ab_bc mt_M_feed) 20 = .ok (.iconst 0, 1) := by decide +kernel
theorem d_M_feed_21 : decode (ab_bc mt_M_feed) 21 = .ok (.istore 6, 2) := by decide +kernel
theorem d_M_feed_23 : decode (ab_bc mt_M_feed) 23 = .ok (.iload 6, 2) := by decide +kernel
theorem d_M_feed_25 : decode (ab_bc mt_M_feed) 25 = .ok (.bipush 20, 2) := by decide +kernel
theorem d_M_feed_27 : decode (ab_bc mt_M_feed) 27 = .ok (.if_icmp .ge 93, 3) := by decide +kernel
theorem d_M_feed_30 : decode (ab_bc mt_M_feed) 30 = .ok (.iload 6, 2) := by decide +kernel
theorem d_M_feed_32 : decode (ab_bc mt_M_feed) 32 = .ok (.iconst 4, 1) := by decide +kernel
theorem d_M_feed_33 : decode (ab_bc mt_M_feed) 33 = .ok (.if_icmp .ge 7, 3) := by decide +kernel
theorem d_M_feed_36 : decode (ab_bc mt_M_feed) 36 = .ok (.iload_n 1, 1) := by decide +kernel
theorem d_M_feed_37 : decode (ab_bc mt_M_feed) 37 = .ok (.goto 39, 3) := by decide +kernel
theorem d_M_feed_40 : decode (ab_bc mt_M_feed) 40 = .ok (.iload 6, 2) := by decide +kernel
theorem d_M_feed_42 : decode (ab_bc mt_M_feed) 42 = .ok (.bipush 8, 2) := by decide +kernel
theorem d_M_feed_44 : decode (ab_bc mt_M_feed) 44 = .ok (.if_icmp .ge 7, 3) := by decide +kernel
theorem d_M_feed_47 : decode (ab_bc mt_M_feed) 47 = .ok (.iload_n 2, 1) := by decide +kernel
theorem d_M_feed_48 : decode (ab_bc mt_M_feed) 48 = .ok (.goto 28, 3) := by decide +kernel
theorem d_M_feed_51 : decode (ab_bc mt_M_feed) 51 = .ok (.iload 6, 2) := by decide +kernel
theorem d_M_feed_53 : decode (ab_bc mt_M_feed) 53 = .ok (.bipush 12, 2) := by decide +kernel
theorem d_M_feed_55 : decode (ab_bc mt_M_feed) 55 = .ok (.if_icmp .ge 7, 3) := by decide +kernel
theorem d_M_feed_58 : decode (ab_bc mt_M_feed) 58 = .ok (.iload_n 3, 1) := by decide +kernel
theorem d_M_feed_59 : decode (ab_bc mt_M_feed) 59 = .ok (.goto 17, 3) := by decide +kernel
theorem d_M_feed_62 : decode (ab_bc mt_M_feed) 62 = .ok (.iload 6, 2) := by decide +kernel
theorem d_M_feed_64 : decode (ab_bc mt_M_feed) 64 = .ok (.bipush 16, 2) := by decide +kernel
theorem d_M_feed_66 : decode (ab_bc mt_M_feed) 66 = .ok (.if_icmp .ge 8, 3) := by decide +kernel
theorem d_M_feed_69 : decode (ab_bc mt_M_feed) 69 = .ok (.iload 4, 2) := by decide +kernel
theorem d_M_feed_71 : decode (ab_bc mt_M_feed) 71 = .ok (.goto 5, 3) := by decide +kernel
theorem d_M_feed_74 : decode (ab_bc mt_M_feed) 74 = .ok (.iload 5, 2) := by decide +kernel
theorem d_M_feed_76 : decode (ab_bc mt_M_feed) 76 = .ok (.istore 7, 2) := by decide +kernel
theorem d_M_feed_78 : decode (ab_bc mt_M_feed) 78 = .ok (.aload_n 0, 1) := by decide +kernel
theorem d_M_feed_79 : decode (ab_bc mt_M_feed) 79 = .ok (.getfield 34, 3) := by decide +kernel
theorem d_M_feed_82 : decode (ab_bc mt_M_feed) 82 = .ok (.aload_n 0, 1) := by decide +kernel
theorem d_M_feed_83 : decode (ab_bc mt_M_feed) 83 = .ok (.getfield 111, 3) := by decide +kernel
theorem d_M_feed_86 : decode (ab_bc mt_M_feed) 86 = .ok (.iload 7, 2) := by decide +kernel
theorem d_M_feed_88 : decode (ab_bc mt_M_feed) 88 = .ok (.bipush 24, 2) := by decide +kernel
theorem d_M_feed_90 : decode (ab_bc mt_M_feed) 90 = .ok (.bipush 8, 2) := by decide +kernel
theorem d_M_feed_92 : decode (ab_bc mt_M_feed) 92 = .ok (.iload 6, 2) := by decide +kernel
theorem d_M_feed_94 : decode (ab_bc mt_M_feed) 94 = .ok (.iconst 4, 1) := by decide +kernel
theorem d_M_feed_95 : decode (ab_bc mt_M_feed) 95 = .ok (.irem, 1) := by decide +kernel
theorem d_M_feed_96 : decode (ab_bc mt_M_feed) 96 = .ok (.imul, 1) := by decide +kernel
theorem d_M_feed_97 : decode (ab_bc mt_M_feed) 97 = .ok (.isub, 1) := by decide +kernel
theorem d_M_feed_98 : decode (ab_bc mt_M_feed) 98 = .ok (.ishr, 1) := by decide +kernel
theorem d_M_feed_99 : decode (ab_bc mt_M_feed) 99 = .ok (.sipush 255, 3) := by decide +kernel
theorem d_M_feed_102 : decode (ab_bc mt_M_feed) 102 = .ok (.iand, 1) := by decide +kernel
theorem d_M_feed_103 : decode (ab_bc mt_M_feed) 103 = .ok (.iastore, 1) := by decide +kernel
theorem d_M_feed_104 : decode (ab_bc mt_M_feed) 104 = .ok (.aload_n 0, 1) := by decide +kernel
theorem d_M_feed_105 : decode (ab_bc mt_M_feed) 105 = .ok (.dup, 1) := by decide +kernel
theorem d_M_feed_106 : decode (ab_bc mt_M_feed) 106 = .ok (.getfield 111, 3) := by decide +kernel
theorem d_M_feed_109 : decode (ab_bc mt_M_feed) 109 = .ok (.iconst 1, 1) := by decide +kernel
theorem d_M_feed_110 : decode (ab_bc mt_M_feed) 110 = .ok (.iadd, 1) := by decide +kernel
theorem d_M_feed_111 : decode (ab_bc mt_M_feed) 111 = .ok (.putfield 111, 3) := by decide +kernel
theorem d_M_feed_114 : decode (ab_bc mt_M_feed) 114 = .ok (.iinc 6 1, 3) := by decide +kernel
theorem d_M_feed_117 : decode (ab_bc mt_M_feed) 117 = .ok (.goto (-94), 3) := by decide +kernel
theorem d_M_feed_120 : decode (ab_bc mt_M_feed) 120 = .ok (.aload_n 0, 1) := by decide +kernel
theorem d_M_feed_121 : decode (ab_bc mt_M_feed) 121 = .ok (.getfield 111, 3) := by decide +kernel
theorem d_M_feed_124 : decode (ab_bc mt_M_feed) 124 = .ok (.ireturn, 1) := by decide +kernel
-- CableKeeperModel.feed(IIIII)I over mx
theorem q_M_feed_0 {w : ab_Wd} {d n nc ns : Nat} {I : Nat → Nat → Int32} {L : Nat → Nat → Int64} {res : ab_Re} (v1 : Int32) (v2 : Int32) (v3 : Int32) (v4 : Int32) (v5 : Int32) (hc : nc ≤ res.2.2.2.2.2.1) (hs : ns ≤ res.2.2.2.2.2.2)
    (h : ((((I mx 8) + 20) ≤ 700 → (ab_E w d mt_M_feed 23 [.ref mx, .int v1, .int v2, .int v3, .int v4, .int v5, .int 0, .null] [] ((ab_up I mx 1 0), L, ab_RR, n, nc, ns) res)) ∧ (¬ ((I mx 8) + 20) ≤ 700 → (res = (.inl (some (.int (-1))), ((ab_up I mx 1 0), L, ab_RR, n, nc, ns)))))) : ab_E w d mt_M_feed 0 [.ref mx, .int v1, .int v2, .int v3, .int v4, .int v5, .null, .null] [] (I, L, ab_RR, n, nc, ns) res := by
  refine ab_aload_n (i := 0) d_M_feed_0 rfl rfl ?_
  refine ab_iconst (v := 0) d_M_feed_1 rfl ?_
  refine ab_putI (ci := 11) (k := 1) d_M_feed_2 v_1369 rfl (by decide) (by decide) rfl (Or.inl rfl) rfl rfl ?_
  refine ab_aload_n (i := 0) d_M_feed_5 rfl rfl ?_
  refine ab_getI (ci := 11) (k := 8) d_M_feed_6 v_1376 rfl (by decide) (by decide) rfl ?_
  refine ab_bipush (v := 20) d_M_feed_9 rfl ?_
  refine ab_iadd d_M_feed_11 ?_
  refine ab_sipush (v := 700) d_M_feed_12 rfl ?_
  refine ab_icmp_le (tgt := 20) d_M_feed_15 (by decide) (fun c1 => ?_) (fun c1 => ?_)
  · have h := h.1 c1
    refine ab_iconst (v := 0) d_M_feed_20 rfl ?_
    refine ab_istore (i := 6) d_M_feed_21 (by decide) (Or.inr rfl) ?_
    exact h
  · have h := h.2 c1
    refine ab_iconst (v := (-1)) d_M_feed_18 rfl ?_
    exact ab_iret (ty := .int) d_M_feed_19 rfl rfl h
theorem q_M_feed_23 {w : ab_Wd} {d n nc ns : Nat} {I : Nat → Nat → Int32} {L : Nat → Nat → Int64} {res : ab_Re} (v1 : Int32) (v2 : Int32) (v3 : Int32) (v4 : Int32) (v5 : Int32) (v6 : Int32) (hc : nc ≤ res.2.2.2.2.2.1) (hs : ns ≤ res.2.2.2.2.2.2)
    (h : ((20 ≤ v6 → (res = (.inl (some (.int (I mx 8))), (I, L, ab_RR, n, nc, ns)))) ∧ (¬ 20 ≤ v6 → ((4 ≤ v6 → ((8 ≤ v6 → ((12 ≤ v6 → ((16 ≤ v6 → (ab_E w d mt_M_feed 76 [.ref mx, .int v1, .int v2, .int v3, .int v4, .int v5, .int v6, .null] [.int v5] (I, L, ab_RR, n, nc, ns) res)) ∧ (¬ 16 ≤ v6 → (ab_E w d mt_M_feed 76 [.ref mx, .int v1, .int v2, .int v3, .int v4, .int v5, .int v6, .null] [.int v4] (I, L, ab_RR, n, nc, ns) res)))) ∧ (¬ 12 ≤ v6 → (ab_E w d mt_M_feed 76 [.ref mx, .int v1, .int v2, .int v3, .int v4, .int v5, .int v6, .null] [.int v3] (I, L, ab_RR, n, nc, ns) res)))) ∧ (¬ 8 ≤ v6 → (ab_E w d mt_M_feed 76 [.ref mx, .int v1, .int v2, .int v3, .int v4, .int v5, .int v6, .null] [.int v2] (I, L, ab_RR, n, nc, ns) res)))) ∧ (¬ 4 ≤ v6 → (ab_E w d mt_M_feed 76 [.ref mx, .int v1, .int v2, .int v3, .int v4, .int v5, .int v6, .null] [.int v1] (I, L, ab_RR, n, nc, ns) res)))))) : ab_E w d mt_M_feed 23 [.ref mx, .int v1, .int v2, .int v3, .int v4, .int v5, .int v6, .null] [] (I, L, ab_RR, n, nc, ns) res := by
  refine ab_iload (i := 6) d_M_feed_23 rfl ?_
  refine ab_bipush (v := 20) d_M_feed_25 rfl ?_
  refine ab_icmp_ge (tgt := 120) d_M_feed_27 (by decide) (fun c1 => ?_) (fun c1 => ?_)
  · have h := h.1 c1
    refine ab_aload_n (i := 0) d_M_feed_120 rfl rfl ?_
    refine ab_getI (ci := 11) (k := 8) d_M_feed_121 v_1376 rfl (by decide) (by decide) rfl ?_
    exact ab_iret (ty := .int) d_M_feed_124 rfl rfl h
  · have h := h.2 c1
    refine ab_iload (i := 6) d_M_feed_30 rfl ?_
    refine ab_iconst (v := 4) d_M_feed_32 rfl ?_
    refine ab_icmp_ge (tgt := 40) d_M_feed_33 (by decide) (fun c2 => ?_) (fun c2 => ?_)
    · have h := h.1 c2
      refine ab_iload (i := 6) d_M_feed_40 rfl ?_
      refine ab_bipush (v := 8) d_M_feed_42 rfl ?_
      refine ab_icmp_ge (tgt := 51) d_M_feed_44 (by decide) (fun c3 => ?_) (fun c3 => ?_)
      · have h := h.1 c3
        refine ab_iload (i := 6) d_M_feed_51 rfl ?_
        refine ab_bipush (v := 12) d_M_feed_53 rfl ?_
        refine ab_icmp_ge (tgt := 62) d_M_feed_55 (by decide) (fun c4 => ?_) (fun c4 => ?_)
        · have h := h.1 c4
          refine ab_iload (i := 6) d_M_feed_62 rfl ?_
          refine ab_bipush (v := 16) d_M_feed_64 rfl ?_
          refine ab_icmp_ge (tgt := 74) d_M_feed_66 (by decide) (fun c5 => ?_) (fun c5 => ?_)
          · have h := h.1 c5
            refine ab_iload (i := 5) d_M_feed_74 rfl ?_
            exact h
          · have h := h.2 c5
            refine ab_iload (i := 4) d_M_feed_69 rfl ?_
            refine ab_goto (tgt := 76) d_M_feed_71 (by decide) ?_
            exact h
        · have h := h.2 c4
          refine ab_iload_n (i := 3) d_M_feed_58 rfl rfl ?_
          refine ab_goto (tgt := 76) d_M_feed_59 (by decide) ?_
          exact h
      · have h := h.2 c3
        refine ab_iload_n (i := 2) d_M_feed_47 rfl rfl ?_
        refine ab_goto (tgt := 76) d_M_feed_48 (by decide) ?_
        exact h
    · have h := h.2 c2
      refine ab_iload_n (i := 1) d_M_feed_36 rfl rfl ?_
      refine ab_goto (tgt := 76) d_M_feed_37 (by decide) ?_
      exact h
theorem q_M_feed_76 {w : ab_Wd} {d n nc ns : Nat} {I : Nat → Nat → Int32} {L : Nat → Nat → Int64} {res : ab_Re} (v1 : Int32) (v2 : Int32) (v3 : Int32) (v4 : Int32) (v5 : Int32) (v6 : Int32) (s0 : Int32) (hc : nc ≤ res.2.2.2.2.2.1) (hs : ns ≤ res.2.2.2.2.2.2)
    (h : (vp_in (I mx 8) 700) ∧ ab_E w d mt_M_feed 23 [.ref mx, .int v1, .int v2, .int v3, .int v4, .int v5, .int (v6 + 1), .null] [] ((ab_up (ab_up I mx_tape (I mx 8).toNatClampNeg ((s0 >>> ((24 - (8 * (v6 - v6 / 4 * 4))) &&& 31)) &&& 255)) mx 8 ((I mx 8) + 1)), L, ab_RR, n, nc, ns) res) : ab_E w d mt_M_feed 76 [.ref mx, .int v1, .int v2, .int v3, .int v4, .int v5, .int v6, .null] [.int s0] (I, L, ab_RR, n, nc, ns) res := by
  refine ab_istore (i := 7) d_M_feed_76 (by decide) (Or.inr rfl) ?_
  refine ab_aload_n (i := 0) d_M_feed_78 rfl rfl ?_
  refine ab_getR (ci := 11) (k := 7) (j := mx_tape) d_M_feed_79 v_1375 rfl (by decide) (by decide) rfl r_mx_7 ?_
  refine ab_aload_n (i := 0) d_M_feed_82 rfl rfl ?_
  refine ab_getI (ci := 11) (k := 8) d_M_feed_83 v_1376 rfl (by decide) (by decide) rfl ?_
  refine ab_iload (i := 7) d_M_feed_86 rfl ?_
  refine ab_bipush (v := 24) d_M_feed_88 rfl ?_
  refine ab_bipush (v := 8) d_M_feed_90 rfl ?_
  refine ab_iload (i := 6) d_M_feed_92 rfl ?_
  refine ab_iconst (v := 4) d_M_feed_94 rfl ?_
  refine ab_irem d_M_feed_95 (by decide) ?_
  refine ab_imul d_M_feed_96 ?_
  refine ab_isub d_M_feed_97 ?_
  refine ab_ishr d_M_feed_98 ?_
  refine ab_sipush (v := 255) d_M_feed_99 rfl ?_
  refine ab_iand d_M_feed_102 ?_
  have g1 := h.1; have h := h.2
  refine ab_iast d_M_feed_103 rfl rfl g1 ?_
  refine ab_aload_n (i := 0) d_M_feed_104 rfl rfl ?_
  refine ab_dupr d_M_feed_105 ?_
  refine ab_getI (ci := 11) (k := 8) d_M_feed_106 v_1376 rfl (by decide) (by decide) rfl ?_
  refine ab_iconst (v := 1) d_M_feed_109 rfl ?_
  refine ab_iadd d_M_feed_110 ?_
  refine ab_putI (ci := 11) (k := 8) d_M_feed_111 v_1376 rfl (by decide) (by decide) rfl (Or.inl rfl) rfl rfl ?_
  refine ab_iinc (i := 6) (v := (v6 + 1)) d_M_feed_114 rfl rfl (by decide) (Or.inr rfl) ?_
  refine ab_goto (tgt := 23) d_M_feed_117 (by decide) ?_
  refine ab_drop 7 ?_
  exact h
theorem d_M_byteAt_0 : decode (ab_bc mt_M_byteAt) 0 = .ok (.iload_n 1, 1) := by decide +kernel
theorem d_M_byteAt_1 : decode (ab_bc mt_M_byteAt) 1 = .ok (.aload_n 0, 1) := by decide +kernel
theorem d_M_byteAt_2 : decode (ab_bc mt_M_byteAt) 2 = .ok (.getfield 114, 3) := by decide +kernel
theorem d_M_byteAt_5 : decode (ab_bc mt_M_byteAt) 5 = .ok (.if_icmp .ge 12, 3) := by decide +kernel
theorem d_M_byteAt_8 : decode (ab_bc mt_M_byteAt) 8 = .ok (.aload_n 0, 1) := by decide +kernel
theorem d_M_byteAt_9 : decode (ab_bc mt_M_byteAt) 9 = .ok (.getfield 34, 3) := by decide +kernel
theorem d_M_byteAt_12 : decode (ab_bc mt_M_byteAt) 12 = .ok (.iload_n 1, 1) := by decide +kernel
theorem d_M_byteAt_13 : decode (ab_bc mt_M_byteAt) 13 = .ok (.iaload, 1) := by decide +kernel
theorem d_M_byteAt_14 : decode (ab_bc mt_M_byteAt) 14 = .ok (.goto 4, 3) := by decide +kernel
theorem d_M_byteAt_17 : decode (ab_bc mt_M_byteAt) 17 = .ok (.iconst (-1), 1) := by decide +kernel
theorem d_M_byteAt_18 : decode (ab_bc mt_M_byteAt) 18 = .ok (.ireturn, 1) := by decide +kernel
-- CableKeeperModel.byteAt(I)I over mx
theorem q_M_byteAt_0 {w : ab_Wd} {d n nc ns : Nat} {I : Nat → Nat → Int32} {L : Nat → Nat → Int64} {res : ab_Re} (v1 : Int32) (hc : nc ≤ res.2.2.2.2.2.1) (hs : ns ≤ res.2.2.2.2.2.2)
    (h : (((I mx 10) ≤ v1 → (ab_E w d mt_M_byteAt 18 [.ref mx, .int v1] [.int (-1)] (I, L, ab_RR, n, nc, ns) res)) ∧ (¬ (I mx 10) ≤ v1 → ((vp_in v1 700) ∧ ab_E w d mt_M_byteAt 18 [.ref mx, .int v1] [.int (I mx_tape v1.toNatClampNeg)] (I, L, ab_RR, n, nc, ns) res)))) : ab_E w d mt_M_byteAt 0 [.ref mx, .int v1] [] (I, L, ab_RR, n, nc, ns) res := by
  refine ab_iload_n (i := 1) d_M_byteAt_0 rfl rfl ?_
  refine ab_aload_n (i := 0) d_M_byteAt_1 rfl rfl ?_
  refine ab_getI (ci := 11) (k := 10) d_M_byteAt_2 v_1378 rfl (by decide) (by decide) rfl ?_
  refine ab_icmp_ge (tgt := 17) d_M_byteAt_5 (by decide) (fun c1 => ?_) (fun c1 => ?_)
  · have h := h.1 c1
    refine ab_iconst (v := (-1)) d_M_byteAt_17 rfl ?_
    exact h
  · have h := h.2 c1
    refine ab_aload_n (i := 0) d_M_byteAt_8 rfl rfl ?_
    refine ab_getR (ci := 11) (k := 7) (j := mx_tape) d_M_byteAt_9 v_1375 rfl (by decide) (by decide) rfl r_mx_7 ?_
    refine ab_iload_n (i := 1) d_M_byteAt_12 rfl rfl ?_
    have g2 := h.1; have h := h.2
    refine ab_iald d_M_byteAt_13 rfl rfl g2 ?_
    refine ab_goto (tgt := 18) d_M_byteAt_14 (by decide) ?_
    exact h
theorem q_M_byteAt_18 {w : ab_Wd} {d n nc ns : Nat} {I : Nat → Nat → Int32} {L : Nat → Nat → Int64} {res : ab_Re} (v1 : Int32) (s0 : Int32) (hc : nc ≤ res.2.2.2.2.2.1) (hs : ns ≤ res.2.2.2.2.2.2)
    (h : res = (.inl (some (.int s0)), (I, L, ab_RR, n, nc, ns))) : ab_E w d mt_M_byteAt 18 [.ref mx, .int v1] [.int s0] (I, L, ab_RR, n, nc, ns) res := by
  exact ab_iret (ty := .int) d_M_byteAt_18 rfl rfl h
theorem d_M_stepOn_0 : decode (ab_bc mt_M_stepOn) 0 = .ok (.aload_n 0, 1) := by decide +kernel
theorem d_M_stepOn_1 : decode (ab_bc mt_M_stepOn) 1 = .ok (.aload_n 0, 1) := by decide +kernel
theorem d_M_stepOn_2 : decode (ab_bc mt_M_stepOn) 2 = .ok (.getfield 117, 3) := by decide +kernel
theorem d_M_stepOn_5 : decode (ab_bc mt_M_stepOn) 5 = .ok (.invokevirtual 120, 3) := by decide +kernel
theorem d_M_stepOn_8 : decode (ab_bc mt_M_stepOn) 8 = .ok (.bipush 32, 2) := by decide +kernel
theorem d_M_stepOn_10 : decode (ab_bc mt_M_stepOn) 10 = .ok (.if_icmp .eq 16, 3) := by decide +kernel
theorem d_M_stepOn_13 : decode (ab_bc mt_M_stepOn) 13 = .ok (.aload_n 0, 1) := by decide +kernel
theorem d_M_stepOn_14 : decode (ab_bc mt_M_stepOn) 14 = .ok (.aload_n 0, 1) := by decide +kernel
theorem d_M_stepOn_15 : decode (ab_bc mt_M_stepOn) 15 = .ok (.getfield 117, 3) := by decide +kernel
theorem d_M_stepOn_18 : decode (ab_bc mt_M_stepOn) 18 = .ok (.invokevirtual 120, 3) := by decide +kernel
theorem d_M_stepOn_21 : decode (ab_bc mt_M_stepOn) 21 = .ok (.bipush 10, 2) := by decide +kernel
theorem d_M_stepOn_23 : decode (ab_bc mt_M_stepOn) 23 = .ok (.if_icmp .ne 16, 3) := by decide +kernel
theorem d_M_stepOn_26 : decode (ab_bc mt_M_stepOn) 26 = .ok (.aload_n 0, 1) := by decide +kernel
theorem d_M_stepOn_27 : decode (ab_bc mt_M_stepOn) 27 = .ok (.dup, 1) := by decide +kernel
theorem d_M_stepOn_28 : decode (ab_bc mt_M_stepOn) 28 = .ok (.getfield 117, 3) := by decide +kernel
theorem d_M_stepOn_31 : decode (ab_bc mt_M_stepOn) 31 = .ok (.iconst 1, 1) := by decide +kernel
theorem d_M_stepOn_32 : decode (ab_bc mt_M_stepOn) 32 = .ok (.iadd, 1) := by decide +kernel
theorem d_M_stepOn_33 : decode (ab_bc mt_M_stepOn) 33 = .ok (.putfield 117, 3) := by decide +kernel
theorem d_M_stepOn_36 : decode (ab_bc mt_M_stepOn) 36 = .ok (.goto (-36), 3) := by decide +kernel
theorem d_M_stepOn_39 : decode (ab_bc mt_M_stepOn) 39 = .ok (.aload_n 0, 1) := by decide +kernel
theorem d_M_stepOn_40 : decode (ab_bc mt_M_stepOn) 40 = .ok (.aload_n 0, 1) := by decide +kernel
theorem d_M_stepOn_41 : decode (ab_bc mt_M_stepOn) 41 = .ok (.getfield 117, 3) := by decide +kernel
theorem d_M_stepOn_44 : decode (ab_bc mt_M_stepOn) 44 = .ok (.putfield 124, 3) := by decide +kernel
theorem d_M_stepOn_47 : decode (ab_bc mt_M_stepOn) 47 = .ok (.aload_n 0, 1) := by decide +kernel
theorem d_M_stepOn_48 : decode (ab_bc mt_M_stepOn) 48 = .ok (.aload_n 0, 1) := by decide +kernel
theorem d_M_stepOn_49 : decode (ab_bc mt_M_stepOn) 49 = .ok (.getfield 117, 3) := by decide +kernel
theorem d_M_stepOn_52 : decode (ab_bc mt_M_stepOn) 52 = .ok (.invokevirtual 120, 3) := by decide +kernel
theorem d_M_stepOn_55 : decode (ab_bc mt_M_stepOn) 55 = .ok (.istore_n 1, 1) := by decide +kernel
theorem d_M_stepOn_56 : decode (ab_bc mt_M_stepOn) 56 = .ok (.iload_n 1, 1) := by decide +kernel
theorem d_M_stepOn_57 : decode (ab_bc mt_M_stepOn) 57 = .ok (.iconst (-1), 1) := by decide +kernel
theorem d_M_stepOn_58 : decode (ab_bc mt_M_stepOn) 58 = .ok (.if_icmp .ne 11, 3) := by decide +kernel
theorem d_M_stepOn_61 : decode (ab_bc mt_M_stepOn) 61 = .ok (.aload_n 0, 1) := by decide +kernel
theorem d_M_stepOn_62 : decode (ab_bc mt_M_stepOn) 62 = .ok (.iconst 0, 1) := by decide +kernel
theorem d_M_stepOn_63 : decode (ab_bc mt_M_stepOn) 63 = .ok (.putfield 127, 3) := by decide +kernel
theorem d_M_stepOn_66 : decode (ab_bc mt_M_stepOn) 66 = .ok (.goto 145, 3) := by decide +kernel
theorem d_M_stepOn_69 : decode (ab_bc mt_M_stepOn) 69 = .ok (.iload_n 1, 1) := by decide +kernel
theorem d_M_stepOn_70 : decode (ab_bc mt_M_stepOn) 70 = .ok (.invokestatic 130, 3) := by decide +kernel
theorem d_M_stepOn_73 : decode (ab_bc mt_M_stepOn) 73 = .ok (.ifCond .eq 38, 3) := by decide +kernel
theorem d_M_stepOn_76 : decode (ab_bc mt_M_stepOn) 76 = .ok (.aload_n 0, 1) := by decide +kernel
theorem d_M_stepOn_77 : decode (ab_bc mt_M_stepOn) 77 = .ok (.aload_n 0, 1) := by decide +kernel
theorem d_M_stepOn_78 : decode (ab_bc mt_M_stepOn) 78 = .ok (.getfield 117, 3) := by decide +kernel
theorem d_M_stepOn_81 : decode (ab_bc mt_M_stepOn) 81 = .ok (.invokevirtual 120, 3) := by decide +kernel
theorem d_M_stepOn_84 : decode (ab_bc mt_M_stepOn) 84 = .ok (.invokestatic 130, 3) := by decide +kernel
theorem d_M_stepOn_87 : decode (ab_bc mt_M_stepOn) 87 = .ok (.ifCond .eq 16, 3) := by decide +kernel
theorem d_M_stepOn_90 : decode (ab_bc mt_M_stepOn) 90 = .ok (.aload_n 0, 1) := by decide +kernel
theorem d_M_stepOn_91 : decode (ab_bc mt_M_stepOn) 91 = .ok (.dup, 1) := by decide +kernel
theorem d_M_stepOn_92 : decode (ab_bc mt_M_stepOn) 92 = .ok (.getfield 117, 3) := by decide +kernel
theorem d_M_stepOn_95 : decode (ab_bc mt_M_stepOn) 95 = .ok (.iconst 1, 1) := by decide +kernel
theorem d_M_stepOn_96 : decode (ab_bc mt_M_stepOn) 96 = .ok (.iadd, 1) := by decide +kernel
theorem d_M_stepOn_97 : decode (ab_bc mt_M_stepOn) 97 = .ok (.putfield 117, 3) := by decide +kernel
theorem d_M_stepOn_100 : decode (ab_bc mt_M_stepOn) 100 = .ok (.goto (-24), 3) := by decide +kernel
theorem d_M_stepOn_103 : decode (ab_bc mt_M_stepOn) 103 = .ok (.aload_n 0, 1) := by decide +kernel
theorem d_M_stepOn_104 : decode (ab_bc mt_M_stepOn) 104 = .ok (.iconst 1, 1) := by decide +kernel
theorem d_M_stepOn_105 : decode (ab_bc mt_M_stepOn) 105 = .ok (.putfield 127, 3) := by decide +kernel
theorem d_M_stepOn_108 : decode (ab_bc mt_M_stepOn) 108 = .ok (.goto 103, 3) := by decide +kernel
theorem d_M_stepOn_111 : decode (ab_bc mt_M_stepOn) 111 = .ok (.iload_n 1, 1) := by decide +kernel
theorem d_M_stepOn_112 : decode (ab_bc mt_M_stepOn) 112 = .ok (.invokestatic 134, 3) := by decide +kernel
theorem d_M_stepOn_115 : decode (ab_bc mt_M_stepOn) 115 = .ok (.ifCond .eq 71, 3) := by decide +kernel
theorem d_M_stepOn_118 : decode (ab_bc mt_M_stepOn) 118 = .ok (.aload_n 0, 1) := by decide +kernel
theorem d_M_stepOn_119 : decode (ab_bc mt_M_stepOn) 119 = .ok (.iconst 0, 1) := by decide +kernel
theorem d_M_stepOn_120 : decode (ab_bc mt_M_stepOn) 120 = .ok (.putfield 137, 3) := by decide +kernel
theorem d_M_stepOn_123 : decode (ab_bc mt_M_stepOn) 123 = .ok (.aload_n 0, 1) := by decide +kernel
theorem d_M_stepOn_124 : decode (ab_bc mt_M_stepOn) 124 = .ok (.aload_n 0, 1) := by decide +kernel
theorem d_M_stepOn_125 : decode (ab_bc mt_M_stepOn) 125 = .ok (.getfield 117, 3) := by decide +kernel
theorem d_M_stepOn_128 : decode (ab_bc mt_M_stepOn) 128 = .ok (.invokevirtual 120, 3) := by decide +kernel
theorem d_M_stepOn_131 : decode (ab_bc mt_M_stepOn) 131 = .ok (.invokestatic 134, 3) := by decide +kernel
theorem d_M_stepOn_134 : decode (ab_bc mt_M_stepOn) 134 = .ok (.ifCond .eq 44, 3) := by decide +kernel
theorem d_M_stepOn_137 : decode (ab_bc mt_M_stepOn) 137 = .ok (.aload_n 0, 1) := by decide +kernel
theorem d_M_stepOn_138 : decode (ab_bc mt_M_stepOn) 138 = .ok (.ldc 140, 2) := by decide +kernel
theorem d_M_stepOn_140 : decode (ab_bc mt_M_stepOn) 140 = .ok (.bipush 10, 2) := by decide +kernel
theorem d_M_stepOn_142 : decode (ab_bc mt_M_stepOn) 142 = .ok (.aload_n 0, 1) := by decide +kernel
theorem d_M_stepOn_143 : decode (ab_bc mt_M_stepOn) 143 = .ok (.getfield 137, 3) := by decide +kernel
theorem d_M_stepOn_146 : decode (ab_bc mt_M_stepOn) 146 = .ok (.imul, 1) := by decide +kernel
theorem d_M_stepOn_147 : decode (ab_bc mt_M_stepOn) 147 = .ok (.aload_n 0, 1) := by decide +kernel
theorem d_M_stepOn_148 : decode (ab_bc mt_M_stepOn) 148 = .ok (.aload_n 0, 1) := by decide +kernel
theorem d_M_stepOn_149 : decode (ab_bc mt_M_stepOn) 149 = .ok (.getfield 117, 3) := by decide +kernel
theorem d_M_stepOn_152 : decode (ab_bc mt_M_stepOn) 152 = .ok (.invokevirtual 120, 3) := by decide +kernel
theorem d_M_stepOn_155 : decode (ab_bc mt_M_stepOn) 155 = .ok (.iadd, 1) := by decide +kernel
theorem d_M_stepOn_156 : decode (ab_bc mt_M_stepOn) 156 = .ok (.bipush 48, 2) := by decide +kernel
theorem d_M_stepOn_158 : decode (ab_bc mt_M_stepOn) 158 = .ok (.isub, 1) := by decide +kernel
theorem d_M_stepOn_159 : decode (ab_bc mt_M_stepOn) 159 = .ok (.invokestatic 141, 3) := by decide +kernel
theorem d_M_stepOn_162 : decode (ab_bc mt_M_stepOn) 162 = .ok (.putfield 137, 3) := by decide +kernel
theorem d_M_stepOn_165 : decode (ab_bc mt_M_stepOn) 165 = .ok (.aload_n 0, 1) := by decide +kernel
theorem d_M_stepOn_166 : decode (ab_bc mt_M_stepOn) 166 = .ok (.dup, 1) := by decide +kernel
theorem d_M_stepOn_167 : decode (ab_bc mt_M_stepOn) 167 = .ok (.getfield 117, 3) := by decide +kernel
theorem d_M_stepOn_170 : decode (ab_bc mt_M_stepOn) 170 = .ok (.iconst 1, 1) := by decide +kernel
theorem d_M_stepOn_171 : decode (ab_bc mt_M_stepOn) 171 = .ok (.iadd, 1) := by decide +kernel
theorem d_M_stepOn_172 : decode (ab_bc mt_M_stepOn) 172 = .ok (.putfield 117, 3) := by decide +kernel
theorem d_M_stepOn_175 : decode (ab_bc mt_M_stepOn) 175 = .ok (.goto (-52), 3) := by decide +kernel
theorem d_M_stepOn_178 : decode (ab_bc mt_M_stepOn) 178 = .ok (.aload_n 0, 1) := by decide +kernel
theorem d_M_stepOn_179 : decode (ab_bc mt_M_stepOn) 179 = .ok (.iconst 2, 1) := by decide +kernel
theorem d_M_stepOn_180 : decode (ab_bc mt_M_stepOn) 180 = .ok (.putfield 127, 3) := by decide +kernel
theorem d_M_stepOn_183 : decode (ab_bc mt_M_stepOn) 183 = .ok (.goto 28, 3) := by decide +kernel
theorem d_M_stepOn_186 : decode (ab_bc mt_M_stepOn) 186 = .ok (.aload_n 0, 1) := by decide +kernel
theorem d_M_stepOn_187 : decode (ab_bc mt_M_stepOn) 187 = .ok (.dup, 1) := by decide +kernel
theorem d_M_stepOn_188 : decode (ab_bc mt_M_stepOn) 188 = .ok (.getfield 117, 3) := by decide +kernel
theorem d_M_stepOn_191 : decode (ab_bc mt_M_stepOn) 191 = .ok (.iconst 1, 1) := by decide +kernel
theorem d_M_stepOn_192 : decode (ab_bc mt_M_stepOn) 192 = .ok (.iadd, 1) := by decide +kernel
theorem d_M_stepOn_193 : decode (ab_bc mt_M_stepOn) 193 = .ok (.putfield 117, 3) := by decide +kernel
theorem d_M_stepOn_196 : decode (ab_bc mt_M_stepOn) 196 = .ok (.aload_n 0, 1) := by decide +kernel
theorem d_M_stepOn_197 : decode (ab_bc mt_M_stepOn) 197 = .ok (.iload_n 1, 1) := by decide +kernel
theorem d_M_stepOn_198 : decode (ab_bc mt_M_stepOn) 198 = .ok (.bipush 59, 2) := by decide +kernel
theorem d_M_stepOn_200 : decode (ab_bc mt_M_stepOn) 200 = .ok (.if_icmp .ne 7, 3) := by decide +kernel
theorem d_M_stepOn_203 : decode (ab_bc mt_M_stepOn) 203 = .ok (.iconst 3, 1) := by decide +kernel
theorem d_M_stepOn_204 : decode (ab_bc mt_M_stepOn) 204 = .ok (.goto 4, 3) := by decide +kernel
theorem d_M_stepOn_207 : decode (ab_bc mt_M_stepOn) 207 = .ok (.iconst 4, 1) := by decide +kernel
theorem d_M_stepOn_208 : decode (ab_bc mt_M_stepOn) 208 = .ok (.putfield 127, 3) := by decide +kernel
theorem d_M_stepOn_211 : decode (ab_bc mt_M_stepOn) 211 = .ok (.aload_n 0, 1) := by decide +kernel
theorem d_M_stepOn_212 : decode (ab_bc mt_M_stepOn) 212 = .ok (.aload_n 0, 1) := by decide +kernel
theorem d_M_stepOn_213 : decode (ab_bc mt_M_stepOn) 213 = .ok (.getfield 117, 3) := by decide +kernel
theorem d_M_stepOn_216 : decode (ab_bc mt_M_stepOn) 216 = .ok (.putfield 147, 3) := by decide +kernel
theorem d_M_stepOn_219 : decode (ab_bc mt_M_stepOn) 219 = .ok (.return_, 1) := by decide +kernel
-- CableKeeperModel.stepOn()V over mx
theorem q_M_stepOn_0 {w : ab_Wd} {d n nc ns : Nat} {I : Nat → Nat → Int32} {L : Nat → Nat → Int64} {res : ab_Re}  (hc : nc ≤ res.2.2.2.2.2.1) (hs : ns ≤ res.2.2.2.2.2.2)
    (h : ∃ (r1 : Int32), ab_C w d mt_M_byteAt [.ref mx, .int (I mx 9)] (I, L, ab_RR, n, nc, ns) (.inl (some (.int r1)), (I, L, ab_RR, n, nc, ns)) ∧ ((r1 = 32 → (ab_E w (d + 1) mt_M_stepOn 26 [.ref mx, .null] [] (I, L, ab_RR, n, nc, ns) res)) ∧ (¬ r1 = 32 → (∃ (r3 : Int32), ab_C w d mt_M_byteAt [.ref mx, .int (I mx 9)] (I, L, ab_RR, n, nc, ns) (.inl (some (.int r3)), (I, L, ab_RR, n, nc, ns)) ∧ ((¬ r3 = 10 → (∃ (r5 : Int32), ab_C w d mt_M_byteAt [.ref mx, .int (I mx 9)] ((ab_up I mx 13 (I mx 9)), L, ab_RR, n, nc, ns) (.inl (some (.int r5)), ((ab_up I mx 13 (I mx 9)), L, ab_RR, n, nc, ns)) ∧ ((¬ r5 = (-1) → (∃ (r7 : Int32), ab_C w d mt_M_isLetter [.int r5] ((ab_up I mx 13 (I mx 9)), L, ab_RR, n, nc, ns) (.inl (some (.int r7)), ((ab_up I mx 13 (I mx 9)), L, ab_RR, n, nc, ns)) ∧ ((r7 = 0 → (∃ (r9 : Int32), ab_C w d mt_M_isDigit [.int r5] ((ab_up I mx 13 (I mx 9)), L, ab_RR, n, nc, ns) (.inl (some (.int r9)), ((ab_up I mx 13 (I mx 9)), L, ab_RR, n, nc, ns)) ∧ ((r9 = 0 → ((¬ r5 = 59 → (ab_E w (d + 1) mt_M_stepOn 208 [.ref mx, .int r5] [.int 4, .ref mx] ((ab_up (ab_up I mx 13 (I mx 9)) mx 9 ((I mx 9) + 1)), L, ab_RR, n, nc, ns) res)) ∧ (r5 = 59 → (ab_E w (d + 1) mt_M_stepOn 208 [.ref mx, .int r5] [.int 3, .ref mx] ((ab_up (ab_up I mx 13 (I mx 9)) mx 9 ((I mx 9) + 1)), L, ab_RR, n, nc, ns) res)))) ∧ (¬ r9 = 0 → (ab_E w (d + 1) mt_M_stepOn 123 [.ref mx, .int r5] [] ((ab_up (ab_up I mx 13 (I mx 9)) mx 12 0), L, ab_RR, n, nc, ns) res))))) ∧ (¬ r7 = 0 → (ab_E w (d + 1) mt_M_stepOn 76 [.ref mx, .int r5] [] ((ab_up I mx 13 (I mx 9)), L, ab_RR, n, nc, ns) res))))) ∧ (r5 = (-1) → (ab_E w (d + 1) mt_M_stepOn 211 [.ref mx, .int r5] [] ((ab_up (ab_up I mx 13 (I mx 9)) mx 11 0), L, ab_RR, n, nc, ns) res))))) ∧ (r3 = 10 → (ab_E w (d + 1) mt_M_stepOn 26 [.ref mx, .null] [] (I, L, ab_RR, n, nc, ns) res))))))) : ab_E w (d + 1) mt_M_stepOn 0 [.ref mx, .null] [] (I, L, ab_RR, n, nc, ns) res := by
  refine ab_aload_n (i := 0) d_M_stepOn_0 rfl rfl ?_
  refine ab_aload_n (i := 0) d_M_stepOn_1 rfl rfl ?_
  refine ab_getI (ci := 11) (k := 9) d_M_stepOn_2 v_1377 rfl (by decide) (by decide) rfl ?_
  obtain ⟨r1, hC, h⟩ := h
  refine ab_callV (me2 := mt_M_byteAt) (b := mx) (as := [.int (I mx 9)]) (st := []) (rv := (some (.int r1))) (M2 := (I, L, ab_RR, n, nc, ns)) d_M_stepOn_5 ce_M_byteAt v_1570 v_1572 v_68 (by decide) rfl (Nat.le_of_ble_eq_true rfl) hC (Nat.le_refl _) (Nat.le_refl _) hc hs (fun j h9 => by cases h9) (fun _ _ => rfl) ?_
  show ab_E w (d + 1) mt_M_stepOn 8 [.ref mx, .null] [.int r1] (I, L, ab_RR, n, nc, ns) res
  refine ab_bipush (v := 32) d_M_stepOn_8 rfl ?_
  refine ab_icmp_eq (tgt := 26) d_M_stepOn_10 (by decide) (fun c2 => ?_) (fun c2 => ?_)
  · have h := h.1 c2
    exact h
  · have h := h.2 c2
    refine ab_aload_n (i := 0) d_M_stepOn_13 rfl rfl ?_
    refine ab_aload_n (i := 0) d_M_stepOn_14 rfl rfl ?_
    refine ab_getI (ci := 11) (k := 9) d_M_stepOn_15 v_1377 rfl (by decide) (by decide) rfl ?_
    obtain ⟨r3, hC, h⟩ := h
    refine ab_callV (me2 := mt_M_byteAt) (b := mx) (as := [.int (I mx 9)]) (st := []) (rv := (some (.int r3))) (M2 := (I, L, ab_RR, n, nc, ns)) d_M_stepOn_18 ce_M_byteAt v_1570 v_1572 v_68 (by decide) rfl (Nat.le_of_ble_eq_true rfl) hC (Nat.le_refl _) (Nat.le_refl _) hc hs (fun j h9 => by cases h9) (fun _ _ => rfl) ?_
    show ab_E w (d + 1) mt_M_stepOn 21 [.ref mx, .null] [.int r3] (I, L, ab_RR, n, nc, ns) res
    refine ab_bipush (v := 10) d_M_stepOn_21 rfl ?_
    refine ab_icmp_ne (tgt := 39) d_M_stepOn_23 (by decide) (fun c4 => ?_) (fun c4 => ?_)
    · have h := h.1 c4
      refine ab_aload_n (i := 0) d_M_stepOn_39 rfl rfl ?_
      refine ab_aload_n (i := 0) d_M_stepOn_40 rfl rfl ?_
      refine ab_getI (ci := 11) (k := 9) d_M_stepOn_41 v_1377 rfl (by decide) (by decide) rfl ?_
      refine ab_putI (ci := 11) (k := 13) d_M_stepOn_44 v_1381 rfl (by decide) (by decide) rfl (Or.inl rfl) rfl rfl ?_
      refine ab_aload_n (i := 0) d_M_stepOn_47 rfl rfl ?_
      refine ab_aload_n (i := 0) d_M_stepOn_48 rfl rfl ?_
      refine ab_getI (ci := 11) (k := 9) d_M_stepOn_49 v_1377 rfl (by decide) (by decide) rfl ?_
      obtain ⟨r5, hC, h⟩ := h
      refine ab_callV (me2 := mt_M_byteAt) (b := mx) (as := [.int (I mx 9)]) (st := []) (rv := (some (.int r5))) (M2 := ((ab_up I mx 13 (I mx 9)), L, ab_RR, n, nc, ns)) d_M_stepOn_52 ce_M_byteAt v_1570 v_1572 v_68 (by decide) rfl (Nat.le_of_ble_eq_true rfl) hC (Nat.le_refl _) (Nat.le_refl _) hc hs (fun j h9 => by cases h9) (fun _ _ => rfl) ?_
      show ab_E w (d + 1) mt_M_stepOn 55 [.ref mx, .null] [.int r5] ((ab_up I mx 13 (I mx 9)), L, ab_RR, n, nc, ns) res
      refine ab_istore_n (i := 1) d_M_stepOn_55 rfl (by decide) (Or.inr rfl) ?_
      refine ab_iload_n (i := 1) d_M_stepOn_56 rfl rfl ?_
      refine ab_iconst (v := (-1)) d_M_stepOn_57 rfl ?_
      refine ab_icmp_ne (tgt := 69) d_M_stepOn_58 (by decide) (fun c6 => ?_) (fun c6 => ?_)
      · have h := h.1 c6
        refine ab_iload_n (i := 1) d_M_stepOn_69 rfl rfl ?_
        obtain ⟨r7, hC, h⟩ := h
        refine ab_callS (me2 := mt_M_isLetter) (as := [.int r5]) (st := []) (rv := (some (.int r7))) (M2 := ((ab_up I mx 13 (I mx 9)), L, ab_RR, n, nc, ns)) d_M_stepOn_70 ce_M_isLetter ⟨v_1575, Or.inl v_1574⟩ (Nat.le_of_ble_eq_true rfl) hC (Nat.le_refl _) (Nat.le_refl _) hc hs (fun j h9 => by cases h9) (fun _ _ => rfl) ?_
        show ab_E w (d + 1) mt_M_stepOn 73 [.ref mx, .int r5] [.int r7] ((ab_up I mx 13 (I mx 9)), L, ab_RR, n, nc, ns) res
        refine ab_if_eq (tgt := 111) d_M_stepOn_73 (by decide) (fun c8 => ?_) (fun c8 => ?_)
        · have h := h.1 c8
          refine ab_iload_n (i := 1) d_M_stepOn_111 rfl rfl ?_
          obtain ⟨r9, hC, h⟩ := h
          refine ab_callS (me2 := mt_M_isDigit) (as := [.int r5]) (st := []) (rv := (some (.int r9))) (M2 := ((ab_up I mx 13 (I mx 9)), L, ab_RR, n, nc, ns)) d_M_stepOn_112 ce_M_isDigit ⟨v_1578, Or.inl v_1577⟩ (Nat.le_of_ble_eq_true rfl) hC (Nat.le_refl _) (Nat.le_refl _) hc hs (fun j h9 => by cases h9) (fun _ _ => rfl) ?_
          show ab_E w (d + 1) mt_M_stepOn 115 [.ref mx, .int r5] [.int r9] ((ab_up I mx 13 (I mx 9)), L, ab_RR, n, nc, ns) res
          refine ab_if_eq (tgt := 186) d_M_stepOn_115 (by decide) (fun c10 => ?_) (fun c10 => ?_)
          · have h := h.1 c10
            refine ab_aload_n (i := 0) d_M_stepOn_186 rfl rfl ?_
            refine ab_dupr d_M_stepOn_187 ?_
            refine ab_getI (ci := 11) (k := 9) d_M_stepOn_188 v_1377 rfl (by decide) (by decide) rfl ?_
            refine ab_iconst (v := 1) d_M_stepOn_191 rfl ?_
            refine ab_iadd d_M_stepOn_192 ?_
            refine ab_putI (ci := 11) (k := 9) d_M_stepOn_193 v_1377 rfl (by decide) (by decide) rfl (Or.inl rfl) rfl rfl ?_
            refine ab_aload_n (i := 0) d_M_stepOn_196 rfl rfl ?_
            refine ab_iload_n (i := 1) d_M_stepOn_197 rfl rfl ?_
            refine ab_bipush (v := 59) d_M_stepOn_198 rfl ?_
            refine ab_icmp_ne (tgt := 207) d_M_stepOn_200 (by decide) (fun c11 => ?_) (fun c11 => ?_)
            · have h := h.1 c11
              refine ab_iconst (v := 4) d_M_stepOn_207 rfl ?_
              exact h
            · have h := h.2 c11
              refine ab_iconst (v := 3) d_M_stepOn_203 rfl ?_
              refine ab_goto (tgt := 208) d_M_stepOn_204 (by decide) ?_
              exact h
          · have h := h.2 c10
            refine ab_aload_n (i := 0) d_M_stepOn_118 rfl rfl ?_
            refine ab_iconst (v := 0) d_M_stepOn_119 rfl ?_
            refine ab_putI (ci := 11) (k := 12) d_M_stepOn_120 v_1380 rfl (by decide) (by decide) rfl (Or.inl rfl) rfl rfl ?_
            exact h
        · have h := h.2 c8
          exact h
      · have h := h.2 c6
        refine ab_aload_n (i := 0) d_M_stepOn_61 rfl rfl ?_
        refine ab_iconst (v := 0) d_M_stepOn_62 rfl ?_
        refine ab_putI (ci := 11) (k := 11) d_M_stepOn_63 v_1379 rfl (by decide) (by decide) rfl (Or.inl rfl) rfl rfl ?_
        refine ab_goto (tgt := 211) d_M_stepOn_66 (by decide) ?_
        exact h
    · have h := h.2 c4
      exact h
theorem q_M_stepOn_26 {w : ab_Wd} {d n nc ns : Nat} {I : Nat → Nat → Int32} {L : Nat → Nat → Int64} {res : ab_Re}  (hc : nc ≤ res.2.2.2.2.2.1) (hs : ns ≤ res.2.2.2.2.2.2)
    (h : ab_E w (d + 1) mt_M_stepOn 0 [.ref mx, .null] [] ((ab_up I mx 9 ((I mx 9) + 1)), L, ab_RR, n, nc, ns) res) : ab_E w (d + 1) mt_M_stepOn 26 [.ref mx, .null] [] (I, L, ab_RR, n, nc, ns) res := by
  refine ab_aload_n (i := 0) d_M_stepOn_26 rfl rfl ?_
  refine ab_dupr d_M_stepOn_27 ?_
  refine ab_getI (ci := 11) (k := 9) d_M_stepOn_28 v_1377 rfl (by decide) (by decide) rfl ?_
  refine ab_iconst (v := 1) d_M_stepOn_31 rfl ?_
  refine ab_iadd d_M_stepOn_32 ?_
  refine ab_putI (ci := 11) (k := 9) d_M_stepOn_33 v_1377 rfl (by decide) (by decide) rfl (Or.inl rfl) rfl rfl ?_
  refine ab_goto (tgt := 0) d_M_stepOn_36 (by decide) ?_
  exact h
theorem q_M_stepOn_76 {w : ab_Wd} {d n nc ns : Nat} {I : Nat → Nat → Int32} {L : Nat → Nat → Int64} {res : ab_Re} (v1 : Int32) (hc : nc ≤ res.2.2.2.2.2.1) (hs : ns ≤ res.2.2.2.2.2.2)
    (h : ∃ (r1 : Int32), ab_C w d mt_M_byteAt [.ref mx, .int (I mx 9)] (I, L, ab_RR, n, nc, ns) (.inl (some (.int r1)), (I, L, ab_RR, n, nc, ns)) ∧ ∃ (r2 : Int32), ab_C w d mt_M_isLetter [.int r1] (I, L, ab_RR, n, nc, ns) (.inl (some (.int r2)), (I, L, ab_RR, n, nc, ns)) ∧ ((r2 = 0 → (ab_E w (d + 1) mt_M_stepOn 211 [.ref mx, .int v1] [] ((ab_up I mx 11 1), L, ab_RR, n, nc, ns) res)) ∧ (¬ r2 = 0 → (ab_E w (d + 1) mt_M_stepOn 76 [.ref mx, .int v1] [] ((ab_up I mx 9 ((I mx 9) + 1)), L, ab_RR, n, nc, ns) res)))) : ab_E w (d + 1) mt_M_stepOn 76 [.ref mx, .int v1] [] (I, L, ab_RR, n, nc, ns) res := by
  refine ab_aload_n (i := 0) d_M_stepOn_76 rfl rfl ?_
  refine ab_aload_n (i := 0) d_M_stepOn_77 rfl rfl ?_
  refine ab_getI (ci := 11) (k := 9) d_M_stepOn_78 v_1377 rfl (by decide) (by decide) rfl ?_
  obtain ⟨r1, hC, h⟩ := h
  refine ab_callV (me2 := mt_M_byteAt) (b := mx) (as := [.int (I mx 9)]) (st := []) (rv := (some (.int r1))) (M2 := (I, L, ab_RR, n, nc, ns)) d_M_stepOn_81 ce_M_byteAt v_1570 v_1572 v_68 (by decide) rfl (Nat.le_of_ble_eq_true rfl) hC (Nat.le_refl _) (Nat.le_refl _) hc hs (fun j h9 => by cases h9) (fun _ _ => rfl) ?_
  show ab_E w (d + 1) mt_M_stepOn 84 [.ref mx, .int v1] [.int r1] (I, L, ab_RR, n, nc, ns) res
  obtain ⟨r2, hC, h⟩ := h
  refine ab_callS (me2 := mt_M_isLetter) (as := [.int r1]) (st := []) (rv := (some (.int r2))) (M2 := (I, L, ab_RR, n, nc, ns)) d_M_stepOn_84 ce_M_isLetter ⟨v_1575, Or.inl v_1574⟩ (Nat.le_of_ble_eq_true rfl) hC (Nat.le_refl _) (Nat.le_refl _) hc hs (fun j h9 => by cases h9) (fun _ _ => rfl) ?_
  show ab_E w (d + 1) mt_M_stepOn 87 [.ref mx, .int v1] [.int r2] (I, L, ab_RR, n, nc, ns) res
  refine ab_if_eq (tgt := 103) d_M_stepOn_87 (by decide) (fun c3 => ?_) (fun c3 => ?_)
  · have h := h.1 c3
    refine ab_aload_n (i := 0) d_M_stepOn_103 rfl rfl ?_
    refine ab_iconst (v := 1) d_M_stepOn_104 rfl ?_
    refine ab_putI (ci := 11) (k := 11) d_M_stepOn_105 v_1379 rfl (by decide) (by decide) rfl (Or.inl rfl) rfl rfl ?_
    refine ab_goto (tgt := 211) d_M_stepOn_108 (by decide) ?_
    exact h
  · have h := h.2 c3
    refine ab_aload_n (i := 0) d_M_stepOn_90 rfl rfl ?_
    refine ab_dupr d_M_stepOn_91 ?_
    refine ab_getI (ci := 11) (k := 9) d_M_stepOn_92 v_1377 rfl (by decide) (by decide) rfl ?_
    refine ab_iconst (v := 1) d_M_stepOn_95 rfl ?_
    refine ab_iadd d_M_stepOn_96 ?_
    refine ab_putI (ci := 11) (k := 9) d_M_stepOn_97 v_1377 rfl (by decide) (by decide) rfl (Or.inl rfl) rfl rfl ?_
    refine ab_goto (tgt := 76) d_M_stepOn_100 (by decide) ?_
    exact h
theorem q_M_stepOn_123 {w : ab_Wd} {d n nc ns : Nat} {I : Nat → Nat → Int32} {L : Nat → Nat → Int64} {res : ab_Re} (v1 : Int32) (hc : nc ≤ res.2.2.2.2.2.1) (hs : ns ≤ res.2.2.2.2.2.2)
    (h : ∃ (r1 : Int32), ab_C w d mt_M_byteAt [.ref mx, .int (I mx 9)] (I, L, ab_RR, n, nc, ns) (.inl (some (.int r1)), (I, L, ab_RR, n, nc, ns)) ∧ ∃ (r2 : Int32), ab_C w d mt_M_isDigit [.int r1] (I, L, ab_RR, n, nc, ns) (.inl (some (.int r2)), (I, L, ab_RR, n, nc, ns)) ∧ ((r2 = 0 → (ab_E w (d + 1) mt_M_stepOn 211 [.ref mx, .int v1] [] ((ab_up I mx 11 2), L, ab_RR, n, nc, ns) res)) ∧ (¬ r2 = 0 → (∃ (r4 : Int32), ab_C w d mt_M_byteAt [.ref mx, .int (I mx 9)] (I, L, ab_RR, n, nc, ns) (.inl (some (.int r4)), (I, L, ab_RR, n, nc, ns)) ∧ ab_E w (d + 1) mt_M_stepOn 123 [.ref mx, .int v1] [] ((ab_up (ab_up I mx 12 (ab_min32 100000 (((10 * (I mx 12)) + r4) - 48))) mx 9 ((I mx 9) + 1)), L, ab_RR, n, nc, ns) res)))) : ab_E w (d + 1) mt_M_stepOn 123 [.ref mx, .int v1] [] (I, L, ab_RR, n, nc, ns) res := by
  refine ab_aload_n (i := 0) d_M_stepOn_123 rfl rfl ?_
  refine ab_aload_n (i := 0) d_M_stepOn_124 rfl rfl ?_
  refine ab_getI (ci := 11) (k := 9) d_M_stepOn_125 v_1377 rfl (by decide) (by decide) rfl ?_
  obtain ⟨r1, hC, h⟩ := h
  refine ab_callV (me2 := mt_M_byteAt) (b := mx) (as := [.int (I mx 9)]) (st := []) (rv := (some (.int r1))) (M2 := (I, L, ab_RR, n, nc, ns)) d_M_stepOn_128 ce_M_byteAt v_1570 v_1572 v_68 (by decide) rfl (Nat.le_of_ble_eq_true rfl) hC (Nat.le_refl _) (Nat.le_refl _) hc hs (fun j h9 => by cases h9) (fun _ _ => rfl) ?_
  show ab_E w (d + 1) mt_M_stepOn 131 [.ref mx, .int v1] [.int r1] (I, L, ab_RR, n, nc, ns) res
  obtain ⟨r2, hC, h⟩ := h
  refine ab_callS (me2 := mt_M_isDigit) (as := [.int r1]) (st := []) (rv := (some (.int r2))) (M2 := (I, L, ab_RR, n, nc, ns)) d_M_stepOn_131 ce_M_isDigit ⟨v_1578, Or.inl v_1577⟩ (Nat.le_of_ble_eq_true rfl) hC (Nat.le_refl _) (Nat.le_refl _) hc hs (fun j h9 => by cases h9) (fun _ _ => rfl) ?_
  show ab_E w (d + 1) mt_M_stepOn 134 [.ref mx, .int v1] [.int r2] (I, L, ab_RR, n, nc, ns) res
  refine ab_if_eq (tgt := 178) d_M_stepOn_134 (by decide) (fun c3 => ?_) (fun c3 => ?_)
  · have h := h.1 c3
    refine ab_aload_n (i := 0) d_M_stepOn_178 rfl rfl ?_
    refine ab_iconst (v := 2) d_M_stepOn_179 rfl ?_
    refine ab_putI (ci := 11) (k := 11) d_M_stepOn_180 v_1379 rfl (by decide) (by decide) rfl (Or.inl rfl) rfl rfl ?_
    refine ab_goto (tgt := 211) d_M_stepOn_183 (by decide) ?_
    exact h
  · have h := h.2 c3
    refine ab_aload_n (i := 0) d_M_stepOn_137 rfl rfl ?_
    refine ab_ldc (v := 100000) d_M_stepOn_138 v_1580 ?_
    refine ab_bipush (v := 10) d_M_stepOn_140 rfl ?_
    refine ab_aload_n (i := 0) d_M_stepOn_142 rfl rfl ?_
    refine ab_getI (ci := 11) (k := 12) d_M_stepOn_143 v_1380 rfl (by decide) (by decide) rfl ?_
    refine ab_imul d_M_stepOn_146 ?_
    refine ab_aload_n (i := 0) d_M_stepOn_147 rfl rfl ?_
    refine ab_aload_n (i := 0) d_M_stepOn_148 rfl rfl ?_
    refine ab_getI (ci := 11) (k := 9) d_M_stepOn_149 v_1377 rfl (by decide) (by decide) rfl ?_
    obtain ⟨r4, hC, h⟩ := h
    refine ab_callV (me2 := mt_M_byteAt) (b := mx) (as := [.int (I mx 9)]) (st := [.int (10 * (I mx 12)), .int 100000, .ref mx]) (rv := (some (.int r4))) (M2 := (I, L, ab_RR, n, nc, ns)) d_M_stepOn_152 ce_M_byteAt v_1570 v_1572 v_68 (by decide) rfl (Nat.le_of_ble_eq_true rfl) hC (Nat.le_refl _) (Nat.le_refl _) hc hs (fun j h9 => by cases h9) (fun _ _ => rfl) ?_
    show ab_E w (d + 1) mt_M_stepOn 155 [.ref mx, .int v1] [.int r4, .int (10 * (I mx 12)), .int 100000, .ref mx] (I, L, ab_RR, n, nc, ns) res
    refine ab_iadd d_M_stepOn_155 ?_
    refine ab_bipush (v := 48) d_M_stepOn_156 rfl ?_
    refine ab_isub d_M_stepOn_158 ?_
    refine ab_min d_M_stepOn_159 v_1581 v_448 v_150 v_449 (Nat.succ_le_succ (Nat.zero_le _)) (Nat.le_of_ble_eq_true rfl) hc hs ?_
    refine ab_putI (ci := 11) (k := 12) d_M_stepOn_162 v_1380 rfl (by decide) (by decide) rfl (Or.inl rfl) rfl rfl ?_
    refine ab_aload_n (i := 0) d_M_stepOn_165 rfl rfl ?_
    refine ab_dupr d_M_stepOn_166 ?_
    refine ab_getI (ci := 11) (k := 9) d_M_stepOn_167 v_1377 rfl (by decide) (by decide) rfl ?_
    refine ab_iconst (v := 1) d_M_stepOn_170 rfl ?_
    refine ab_iadd d_M_stepOn_171 ?_
    refine ab_putI (ci := 11) (k := 9) d_M_stepOn_172 v_1377 rfl (by decide) (by decide) rfl (Or.inl rfl) rfl rfl ?_
    refine ab_goto (tgt := 123) d_M_stepOn_175 (by decide) ?_
    exact h
theorem q_M_stepOn_208 {w : ab_Wd} {d n nc ns : Nat} {I : Nat → Nat → Int32} {L : Nat → Nat → Int64} {res : ab_Re} (v1 : Int32) (s1 : Int32) (hc : nc ≤ res.2.2.2.2.2.1) (hs : ns ≤ res.2.2.2.2.2.2)
    (h : ab_E w (d + 1) mt_M_stepOn 211 [.ref mx, .int v1] [] ((ab_up I mx 11 s1), L, ab_RR, n, nc, ns) res) : ab_E w (d + 1) mt_M_stepOn 208 [.ref mx, .int v1] [.int s1, .ref mx] (I, L, ab_RR, n, nc, ns) res := by
  refine ab_putI (ci := 11) (k := 11) d_M_stepOn_208 v_1379 rfl (by decide) (by decide) rfl (Or.inl rfl) rfl rfl ?_
  exact h
theorem q_M_stepOn_211 {w : ab_Wd} {d n nc ns : Nat} {I : Nat → Nat → Int32} {L : Nat → Nat → Int64} {res : ab_Re} (v1 : Int32) (hc : nc ≤ res.2.2.2.2.2.1) (hs : ns ≤ res.2.2.2.2.2.2)
    (h : res = (.inl none, ((ab_up I mx 14 (I mx 9)), L, ab_RR, n, nc, ns))) : ab_E w (d + 1) mt_M_stepOn 211 [.ref mx, .int v1] [] (I, L, ab_RR, n, nc, ns) res := by
  refine ab_aload_n (i := 0) d_M_stepOn_211 rfl rfl ?_
  refine ab_aload_n (i := 0) d_M_stepOn_212 rfl rfl ?_
  refine ab_getI (ci := 11) (k := 9) d_M_stepOn_213 v_1377 rfl (by decide) (by decide) rfl ?_
  refine ab_putI (ci := 11) (k := 14) d_M_stepOn_216 v_1382 rfl (by decide) (by decide) rfl (Or.inl rfl) rfl rfl ?_
  exact ab_vret d_M_stepOn_219 rfl h
theorem d_M_wrong_0 : decode (ab_bc mt_M_wrong) 0 = .ok (.aload_n 0, 1) := by decide +kernel
theorem d_M_wrong_1 : decode (ab_bc mt_M_wrong) 1 = .ok (.getfield 150, 3) := by decide +kernel
theorem d_M_wrong_4 : decode (ab_bc mt_M_wrong) 4 = .ok (.ifCond .eq 4, 3) := by decide +kernel
theorem d_M_wrong_7 : decode (ab_bc mt_M_wrong) 7 = .ok (.return_, 1) := by decide +kernel
theorem d_M_wrong_8 : decode (ab_bc mt_M_wrong) 8 = .ok (.aload_n 0, 1) := by decide +kernel
theorem d_M_wrong_9 : decode (ab_bc mt_M_wrong) 9 = .ok (.iload_n 1, 1) := by decide +kernel
theorem d_M_wrong_10 : decode (ab_bc mt_M_wrong) 10 = .ok (.putfield 150, 3) := by decide +kernel
theorem d_M_wrong_13 : decode (ab_bc mt_M_wrong) 13 = .ok (.aload_n 0, 1) := by decide +kernel
theorem d_M_wrong_14 : decode (ab_bc mt_M_wrong) 14 = .ok (.aload_n 0, 1) := by decide +kernel
theorem d_M_wrong_15 : decode (ab_bc mt_M_wrong) 15 = .ok (.getfield 124, 3) := by decide +kernel
theorem d_M_wrong_18 : decode (ab_bc mt_M_wrong) 18 = .ok (.putfield 153, 3) := by decide +kernel
theorem d_M_wrong_21 : decode (ab_bc mt_M_wrong) 21 = .ok (.return_, 1) := by decide +kernel
-- CableKeeperModel.wrong(I)V over mx
theorem q_M_wrong_0 {w : ab_Wd} {d n nc ns : Nat} {I : Nat → Nat → Int32} {L : Nat → Nat → Int64} {res : ab_Re} (v1 : Int32) (hc : nc ≤ res.2.2.2.2.2.1) (hs : ns ≤ res.2.2.2.2.2.2)
    (h : (((I mx 15) = 0 → (res = (.inl none, ((ab_up (ab_up I mx 15 v1) mx 16 (I mx 13)), L, ab_RR, n, nc, ns)))) ∧ (¬ (I mx 15) = 0 → (res = (.inl none, (I, L, ab_RR, n, nc, ns)))))) : ab_E w d mt_M_wrong 0 [.ref mx, .int v1] [] (I, L, ab_RR, n, nc, ns) res := by
  refine ab_aload_n (i := 0) d_M_wrong_0 rfl rfl ?_
  refine ab_getI (ci := 11) (k := 15) d_M_wrong_1 v_1383 rfl (by decide) (by decide) rfl ?_
  refine ab_if_eq (tgt := 8) d_M_wrong_4 (by decide) (fun c1 => ?_) (fun c1 => ?_)
  · have h := h.1 c1
    refine ab_aload_n (i := 0) d_M_wrong_8 rfl rfl ?_
    refine ab_iload_n (i := 1) d_M_wrong_9 rfl rfl ?_
    refine ab_putI (ci := 11) (k := 15) d_M_wrong_10 v_1383 rfl (by decide) (by decide) rfl (Or.inl rfl) rfl rfl ?_
    refine ab_aload_n (i := 0) d_M_wrong_13 rfl rfl ?_
    refine ab_aload_n (i := 0) d_M_wrong_14 rfl rfl ?_
    refine ab_getI (ci := 11) (k := 13) d_M_wrong_15 v_1381 rfl (by decide) (by decide) rfl ?_
    refine ab_putI (ci := 11) (k := 16) d_M_wrong_18 v_1384 rfl (by decide) (by decide) rfl (Or.inl rfl) rfl rfl ?_
    exact ab_vret d_M_wrong_21 rfl h
  · have h := h.2 c1
    exact ab_vret d_M_wrong_7 rfl h
theorem d_M_which_0 : decode (ab_bc mt_M_which) 0 = .ok (.iconst 0, 1) := by decide +kernel
theorem d_M_which_1 : decode (ab_bc mt_M_which) 1 = .ok (.istore_n 1, 1) := by decide +kernel
theorem d_M_which_2 : decode (ab_bc mt_M_which) 2 = .ok (.iload_n 1, 1) := by decide +kernel
theorem d_M_which_3 : decode (ab_bc mt_M_which) 3 = .ok (.aload_n 0, 1) := by decide +kernel
theorem d_M_which_4 : decode (ab_bc mt_M_which) 4 = .ok (.getfield 15, 3) := by decide +kernel
theorem d_M_which_7 : decode (ab_bc mt_M_which) 7 = .ok (.arraylength, 1) := by decide +kernel
theorem d_M_which_8 : decode (ab_bc mt_M_which) 8 = .ok (.if_icmp .ge 24, 3) := by decide +kernel
theorem d_M_which_11 : decode (ab_bc mt_M_which) 11 = .ok (.aload_n 0, 1) := by decide +kernel
theorem d_M_which_12 : decode (ab_bc mt_M_which) 12 = .ok (.aload_n 0, 1) := by decide +kernel
theorem d_M_which_13 : decode (ab_bc mt_M_which) 13 = .ok (.getfield 15, 3) := by decide +kernel
theorem d_M_which_16 : decode (ab_bc mt_M_which) 16 = .ok (.iload_n 1, 1) := by decide +kernel
theorem d_M_which_17 : decode (ab_bc mt_M_which) 17 = .ok (.aaload, 1) := by decide +kernel
theorem d_M_which_18 : decode (ab_bc mt_M_which) 18 = .ok (.invokevirtual 164, 3) := by decide +kernel
theorem d_M_which_21 : decode (ab_bc mt_M_which) 21 = .ok (.ifCond .eq 5, 3) := by decide +kernel
theorem d_M_which_24 : decode (ab_bc mt_M_which) 24 = .ok (.iload_n 1, 1) := by decide +kernel
theorem d_M_which_25 : decode (ab_bc mt_M_which) 25 = .ok (.ireturn, 1) := by decide +kernel
theorem d_M_which_26 : decode (ab_bc mt_M_which) 26 = .ok (.iinc 1 1, 3) := by decide +kernel
theorem d_M_which_29 : decode (ab_bc mt_M_which) 29 = .ok (.goto (-27), 3) := by decide +kernel
theorem d_M_which_32 : decode (ab_bc mt_M_which) 32 = .ok (.iconst (-1), 1) := by decide +kernel
theorem d_M_which_33 : decode (ab_bc mt_M_which) 33 = .ok (.ireturn, 1) := by decide +kernel
-- CableKeeperModel.which()I over mx
theorem q_M_which_0 {w : ab_Wd} {d n nc ns : Nat} {I : Nat → Nat → Int32} {L : Nat → Nat → Int64} {res : ab_Re}  (hc : nc ≤ res.2.2.2.2.2.1) (hs : ns ≤ res.2.2.2.2.2.2)
    (h : ab_E w (d + 1) mt_M_which 2 [.ref mx, .int 0] [] (I, L, ab_RR, n, nc, ns) res) : ab_E w (d + 1) mt_M_which 0 [.ref mx, .null] [] (I, L, ab_RR, n, nc, ns) res := by
  refine ab_iconst (v := 0) d_M_which_0 rfl ?_
  refine ab_istore_n (i := 1) d_M_which_1 rfl (by decide) (Or.inr rfl) ?_
  exact h
theorem q_M_which_2 {w : ab_Wd} {d n nc ns : Nat} {I : Nat → Nat → Int32} {L : Nat → Nat → Int64} {res : ab_Re} (v1 : Int32) (hc : nc ≤ res.2.2.2.2.2.1) (hs : ns ≤ res.2.2.2.2.2.2)
    (h : ((3 ≤ v1 → (res = (.inl (some (.int (-1))), (I, L, ab_RR, n, nc, ns)))) ∧ (¬ 3 ≤ v1 → ((vp_in v1 3) ∧ ∃ (j1 : Nat), (j1 < 8 ∧ ab_RR mx_words v1.toNatClampNeg = .ref (64 * j1 + 32)) ∧ ∃ (r3 : Int32), ab_C w d mt_M_is [.ref mx, .ref (64 * j1 + 32)] (I, L, ab_RR, n, nc, ns) (.inl (some (.int r3)), (I, L, ab_RR, n, nc, ns)) ∧ ((r3 = 0 → (ab_E w (d + 1) mt_M_which 2 [.ref mx, .int (v1 + 1)] [] (I, L, ab_RR, n, nc, ns) res)) ∧ (¬ r3 = 0 → (res = (.inl (some (.int v1)), (I, L, ab_RR, n, nc, ns))))))))) : ab_E w (d + 1) mt_M_which 2 [.ref mx, .int v1] [] (I, L, ab_RR, n, nc, ns) res := by
  refine ab_iload_n (i := 1) d_M_which_2 rfl rfl ?_
  refine ab_aload_n (i := 0) d_M_which_3 rfl rfl ?_
  refine ab_getR (ci := 11) (k := 0) (j := mx_words) d_M_which_4 v_1368 rfl (by decide) (by decide) rfl r_mx_0 ?_
  refine ab_alen (v := 3) d_M_which_7 (by decide) (by decide) rfl ?_
  refine ab_icmp_ge (tgt := 32) d_M_which_8 (by decide) (fun c1 => ?_) (fun c1 => ?_)
  · have h := h.1 c1
    refine ab_iconst (v := (-1)) d_M_which_32 rfl ?_
    exact ab_iret (ty := .int) d_M_which_33 rfl rfl h
  · have h := h.2 c1
    refine ab_aload_n (i := 0) d_M_which_11 rfl rfl ?_
    refine ab_aload_n (i := 0) d_M_which_12 rfl rfl ?_
    refine ab_getR (ci := 11) (k := 0) (j := mx_words) d_M_which_13 v_1368 rfl (by decide) (by decide) rfl r_mx_0 ?_
    refine ab_iload_n (i := 1) d_M_which_16 rfl rfl ?_
    have g2 := h.1; have h := h.2
    obtain ⟨j1, ⟨hj1, hR1⟩, h⟩ := h
    refine ab_aald (j := 64 * j1 + 32) d_M_which_17 rfl rfl g2 hR1 ?_
    obtain ⟨r3, hC, h⟩ := h
    refine ab_callV (me2 := mt_M_is) (b := mx) (as := [.ref (64 * j1 + 32)]) (st := []) (rv := (some (.int r3))) (M2 := (I, L, ab_RR, n, nc, ns)) d_M_which_18 ce_M_is v_1590 v_1592 v_71 (by decide) rfl (Nat.le_of_ble_eq_true rfl) hC (Nat.le_refl _) (Nat.le_refl _) hc hs (fun j h9 => by cases h9) (fun _ _ => rfl) ?_
    show ab_E w (d + 1) mt_M_which 21 [.ref mx, .int v1] [.int r3] (I, L, ab_RR, n, nc, ns) res
    refine ab_if_eq (tgt := 26) d_M_which_21 (by decide) (fun c4 => ?_) (fun c4 => ?_)
    · have h := h.1 c4
      refine ab_iinc (i := 1) (v := (v1 + 1)) d_M_which_26 rfl rfl (by decide) (Or.inr rfl) ?_
      refine ab_goto (tgt := 2) d_M_which_29 (by decide) ?_
      exact h
    · have h := h.2 c4
      refine ab_iload_n (i := 1) d_M_which_24 rfl rfl ?_
      exact ab_iret (ty := .int) d_M_which_25 rfl rfl h
