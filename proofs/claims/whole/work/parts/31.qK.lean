-- CableKeeper.unite([III)Z over kx_likes_behind
theorem q_K_unite_2_0 {w : ab_Wd} {d n nc ns : Nat} {I : Nat → Nat → Int32} {L : Nat → Nat → Int64} {res : ab_Re} (v1 : Int32) (v2 : Int32) (hc : nc ≤ res.2.2.2.2.2.1) (hs : ns ≤ res.2.2.2.2.2.2)
    (h : (vp_in v1 10) ∧ (vp_in v2 10) ∧ (vp_in v1 10) ∧ (vp_in v2 10) ∧ ((¬ (ab_min32 (I kx_likes_behind v1.toNatClampNeg) (I kx_likes_behind v2.toNatClampNeg)) = (ab_max32 (I kx_likes_behind v1.toNatClampNeg) (I kx_likes_behind v2.toNatClampNeg)) → (ab_E w (d + 1) mt_K_unite 33 [.ref kx_likes_behind, .int v1, .int v2, .int (ab_min32 (I kx_likes_behind v1.toNatClampNeg) (I kx_likes_behind v2.toNatClampNeg)), .int (ab_max32 (I kx_likes_behind v1.toNatClampNeg) (I kx_likes_behind v2.toNatClampNeg)), .int (ab_max32 (I kx_likes_behind v1.toNatClampNeg) (I kx_likes_behind v2.toNatClampNeg))] [] (I, L, ab_RR, n, nc, ns) res)) ∧ ((ab_min32 (I kx_likes_behind v1.toNatClampNeg) (I kx_likes_behind v2.toNatClampNeg)) = (ab_max32 (I kx_likes_behind v1.toNatClampNeg) (I kx_likes_behind v2.toNatClampNeg)) → (res = (.inl (some (.int 0)), (I, L, ab_RR, n, nc, ns)))))) : ab_E w (d + 1) mt_K_unite 0 [.ref kx_likes_behind, .int v1, .int v2, .null, .null, .null] [] (I, L, ab_RR, n, nc, ns) res := by
  refine ab_aload_n (i := 0) d_K_unite_0 rfl rfl ?_
  refine ab_iload_n (i := 1) d_K_unite_1 rfl rfl ?_
  have g1 := h.1; have h := h.2
  refine ab_iald d_K_unite_2 rfl rfl g1 ?_
  refine ab_aload_n (i := 0) d_K_unite_3 rfl rfl ?_
  refine ab_iload_n (i := 2) d_K_unite_4 rfl rfl ?_
  have g2 := h.1; have h := h.2
  refine ab_iald d_K_unite_5 rfl rfl g2 ?_
  refine ab_min d_K_unite_6 v_447 v_448 v_150 v_449 (Nat.succ_le_succ (Nat.zero_le _)) (by decide) hc hs ?_
  refine ab_istore_n (i := 3) d_K_unite_9 rfl (by decide) (Or.inr rfl) ?_
  refine ab_aload_n (i := 0) d_K_unite_10 rfl rfl ?_
  refine ab_iload_n (i := 1) d_K_unite_11 rfl rfl ?_
  have g3 := h.1; have h := h.2
  refine ab_iald d_K_unite_12 rfl rfl g3 ?_
  refine ab_aload_n (i := 0) d_K_unite_13 rfl rfl ?_
  refine ab_iload_n (i := 2) d_K_unite_14 rfl rfl ?_
  have g4 := h.1; have h := h.2
  refine ab_iald d_K_unite_15 rfl rfl g4 ?_
  refine ab_max d_K_unite_16 v_450 v_451 v_150 v_452 (Nat.succ_le_succ (Nat.zero_le _)) (by decide) hc hs ?_
  refine ab_istore (i := 4) d_K_unite_19 (by decide) (Or.inr rfl) ?_
  refine ab_iload_n (i := 3) d_K_unite_21 rfl rfl ?_
  refine ab_iload (i := 4) d_K_unite_22 rfl ?_
  refine ab_icmp_ne (tgt := 29) d_K_unite_24 (by decide) (fun c5 => ?_) (fun c5 => ?_)
  · have h := h.1 c5
    refine ab_iload (i := 4) d_K_unite_29 rfl ?_
    refine ab_istore (i := 5) d_K_unite_31 (by decide) (Or.inr rfl) ?_
    exact h
  · have h := h.2 c5
    refine ab_iconst (v := 0) d_K_unite_27 rfl ?_
    exact ab_iret (ty := .boolean) d_K_unite_28 rfl rfl h
theorem q_K_unite_2_33 {w : ab_Wd} {d n nc ns : Nat} {I : Nat → Nat → Int32} {L : Nat → Nat → Int64} {res : ab_Re} (v1 : Int32) (v2 : Int32) (v3 : Int32) (v4 : Int32) (v5 : Int32) (hc : nc ≤ res.2.2.2.2.2.1) (hs : ns ≤ res.2.2.2.2.2.2)
    (h : ((10 ≤ v5 → (res = (.inl (some (.int 1)), (I, L, ab_RR, n, nc, ns)))) ∧ (¬ 10 ≤ v5 → ((vp_in v5 10) ∧ ((¬ (I kx_likes_behind v5.toNatClampNeg) = v4 → (ab_E w (d + 1) mt_K_unite 54 [.ref kx_likes_behind, .int v1, .int v2, .int v3, .int v4, .int v5] [] (I, L, ab_RR, n, nc, ns) res)) ∧ ((I kx_likes_behind v5.toNatClampNeg) = v4 → ((vp_in v5 10) ∧ ab_E w (d + 1) mt_K_unite 54 [.ref kx_likes_behind, .int v1, .int v2, .int v3, .int v4, .int v5] [] ((ab_up I kx_likes_behind v5.toNatClampNeg v3), L, ab_RR, n, nc, ns) res))))))) : ab_E w (d + 1) mt_K_unite 33 [.ref kx_likes_behind, .int v1, .int v2, .int v3, .int v4, .int v5] [] (I, L, ab_RR, n, nc, ns) res := by
  refine ab_iload (i := 5) d_K_unite_33 rfl ?_
  refine ab_aload_n (i := 0) d_K_unite_35 rfl rfl ?_
  refine ab_alen (v := 10) d_K_unite_36 (by decide) (by decide) rfl ?_
  refine ab_icmp_ge (tgt := 60) d_K_unite_37 (by decide) (fun c1 => ?_) (fun c1 => ?_)
  · have h := h.1 c1
    refine ab_iconst (v := 1) d_K_unite_60 rfl ?_
    exact ab_iret (ty := .boolean) d_K_unite_61 rfl rfl h
  · have h := h.2 c1
    refine ab_aload_n (i := 0) d_K_unite_40 rfl rfl ?_
    refine ab_iload (i := 5) d_K_unite_41 rfl ?_
    have g2 := h.1; have h := h.2
    refine ab_iald d_K_unite_43 rfl rfl g2 ?_
    refine ab_iload (i := 4) d_K_unite_44 rfl ?_
    refine ab_icmp_ne (tgt := 54) d_K_unite_46 (by decide) (fun c3 => ?_) (fun c3 => ?_)
    · have h := h.1 c3
      exact h
    · have h := h.2 c3
      refine ab_aload_n (i := 0) d_K_unite_49 rfl rfl ?_
      refine ab_iload (i := 5) d_K_unite_50 rfl ?_
      refine ab_iload_n (i := 3) d_K_unite_52 rfl rfl ?_
      have g4 := h.1; have h := h.2
      refine ab_iast d_K_unite_53 rfl rfl g4 ?_
      exact h
theorem q_K_unite_2_54 {w : ab_Wd} {d n nc ns : Nat} {I : Nat → Nat → Int32} {L : Nat → Nat → Int64} {res : ab_Re} (v1 : Int32) (v2 : Int32) (v3 : Int32) (v4 : Int32) (v5 : Int32) (hc : nc ≤ res.2.2.2.2.2.1) (hs : ns ≤ res.2.2.2.2.2.2)
    (h : ab_E w (d + 1) mt_K_unite 33 [.ref kx_likes_behind, .int v1, .int v2, .int v3, .int v4, .int (v5 + 1)] [] (I, L, ab_RR, n, nc, ns) res) : ab_E w (d + 1) mt_K_unite 54 [.ref kx_likes_behind, .int v1, .int v2, .int v3, .int v4, .int v5] [] (I, L, ab_RR, n, nc, ns) res := by
  refine ab_iinc (i := 5) (v := (v5 + 1)) d_K_unite_54 rfl rfl (by decide) (Or.inr rfl) ?_
  refine ab_goto (tgt := 33) d_K_unite_57 (by decide) ?_
  exact h
