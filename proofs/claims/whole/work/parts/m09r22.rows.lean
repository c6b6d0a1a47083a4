theorem r_Likes_enter_0 {w : ab_Wd} {d n nc ns : Nat} {I : Nat → Nat → Int32} {L : Nat → Nat → Int64} {res : ab_Re} (hT : w.1.stackTraces = false) (v1 : Int32) (v2 : Int32) (hc : nc ≤ res.2.2.2.2.2.1) (hs : ns ≤ res.2.2.2.2.2.2)
    (h : (vp_in v1 10) ∧ (vp_in v2 10) ∧ ((¬ (I kx_likes_before v1.toNatClampNeg) = (I kx_likes_before v2.toNatClampNeg) → ((vp_in (((I kx_likes_before v1.toNatClampNeg) * 10) + (I kx_likes_before v1.toNatClampNeg)) 100) ∧ (vp_in (((I kx_likes_before v2.toNatClampNeg) * 10) + (I kx_likes_before v2.toNatClampNeg)) 100) ∧ (vp_in (((I kx_likes_before v1.toNatClampNeg) * 10) + (I kx_likes_before v2.toNatClampNeg)) 100) ∧ (vp_in (((I kx_likes_before v2.toNatClampNeg) * 10) + (I kx_likes_before v1.toNatClampNeg)) 100) ∧ ∃ (r8 : Int32) (I9 : Nat → Nat → Int32), ab_C w d mt_K_unite [.ref kx_likes_behind, .int (I kx_likes_before v1.toNatClampNeg), .int (I kx_likes_before v2.toNatClampNeg)] (I, (ab_upL (ab_upL (ab_upL (ab_upL L kx_likes_matrix (((I kx_likes_before v1.toNatClampNeg) * 10) + (I kx_likes_before v1.toNatClampNeg)).toNatClampNeg ((L kx_likes_matrix (((I kx_likes_before v1.toNatClampNeg) * 10) + (I kx_likes_before v1.toNatClampNeg)).toNatClampNeg) + 1)) kx_likes_matrix (((I kx_likes_before v2.toNatClampNeg) * 10) + (I kx_likes_before v2.toNatClampNeg)).toNatClampNeg (((ab_upL L kx_likes_matrix (((I kx_likes_before v1.toNatClampNeg) * 10) + (I kx_likes_before v1.toNatClampNeg)).toNatClampNeg ((L kx_likes_matrix (((I kx_likes_before v1.toNatClampNeg) * 10) + (I kx_likes_before v1.toNatClampNeg)).toNatClampNeg) + 1)) kx_likes_matrix (((I kx_likes_before v2.toNatClampNeg) * 10) + (I kx_likes_before v2.toNatClampNeg)).toNatClampNeg) + 1)) kx_likes_matrix (((I kx_likes_before v1.toNatClampNeg) * 10) + (I kx_likes_before v2.toNatClampNeg)).toNatClampNeg (((ab_upL (ab_upL L kx_likes_matrix (((I kx_likes_before v1.toNatClampNeg) * 10) + (I kx_likes_before v1.toNatClampNeg)).toNatClampNeg ((L kx_likes_matrix (((I kx_likes_before v1.toNatClampNeg) * 10) + (I kx_likes_before v1.toNatClampNeg)).toNatClampNeg) + 1)) kx_likes_matrix (((I kx_likes_before v2.toNatClampNeg) * 10) + (I kx_likes_before v2.toNatClampNeg)).toNatClampNeg (((ab_upL L kx_likes_matrix (((I kx_likes_before v1.toNatClampNeg) * 10) + (I kx_likes_before v1.toNatClampNeg)).toNatClampNeg ((L kx_likes_matrix (((I kx_likes_before v1.toNatClampNeg) * 10) + (I kx_likes_before v1.toNatClampNeg)).toNatClampNeg) + 1)) kx_likes_matrix (((I kx_likes_before v2.toNatClampNeg) * 10) + (I kx_likes_before v2.toNatClampNeg)).toNatClampNeg) + 1)) kx_likes_matrix (((I kx_likes_before v1.toNatClampNeg) * 10) + (I kx_likes_before v2.toNatClampNeg)).toNatClampNeg) - 1)) kx_likes_matrix (((I kx_likes_before v2.toNatClampNeg) * 10) + (I kx_likes_before v1.toNatClampNeg)).toNatClampNeg (((ab_upL (ab_upL (ab_upL L kx_likes_matrix (((I kx_likes_before v1.toNatClampNeg) * 10) + (I kx_likes_before v1.toNatClampNeg)).toNatClampNeg ((L kx_likes_matrix (((I kx_likes_before v1.toNatClampNeg) * 10) + (I kx_likes_before v1.toNatClampNeg)).toNatClampNeg) + 1)) kx_likes_matrix (((I kx_likes_before v2.toNatClampNeg) * 10) + (I kx_likes_before v2.toNatClampNeg)).toNatClampNeg (((ab_upL L kx_likes_matrix (((I kx_likes_before v1.toNatClampNeg) * 10) + (I kx_likes_before v1.toNatClampNeg)).toNatClampNeg ((L kx_likes_matrix (((I kx_likes_before v1.toNatClampNeg) * 10) + (I kx_likes_before v1.toNatClampNeg)).toNatClampNeg) + 1)) kx_likes_matrix (((I kx_likes_before v2.toNatClampNeg) * 10) + (I kx_likes_before v2.toNatClampNeg)).toNatClampNeg) + 1)) kx_likes_matrix (((I kx_likes_before v1.toNatClampNeg) * 10) + (I kx_likes_before v2.toNatClampNeg)).toNatClampNeg (((ab_upL (ab_upL L kx_likes_matrix (((I kx_likes_before v1.toNatClampNeg) * 10) + (I kx_likes_before v1.toNatClampNeg)).toNatClampNeg ((L kx_likes_matrix (((I kx_likes_before v1.toNatClampNeg) * 10) + (I kx_likes_before v1.toNatClampNeg)).toNatClampNeg) + 1)) kx_likes_matrix (((I kx_likes_before v2.toNatClampNeg) * 10) + (I kx_likes_before v2.toNatClampNeg)).toNatClampNeg (((ab_upL L kx_likes_matrix (((I kx_likes_before v1.toNatClampNeg) * 10) + (I kx_likes_before v1.toNatClampNeg)).toNatClampNeg ((L kx_likes_matrix (((I kx_likes_before v1.toNatClampNeg) * 10) + (I kx_likes_before v1.toNatClampNeg)).toNatClampNeg) + 1)) kx_likes_matrix (((I kx_likes_before v2.toNatClampNeg) * 10) + (I kx_likes_before v2.toNatClampNeg)).toNatClampNeg) + 1)) kx_likes_matrix (((I kx_likes_before v1.toNatClampNeg) * 10) + (I kx_likes_before v2.toNatClampNeg)).toNatClampNeg) - 1)) kx_likes_matrix (((I kx_likes_before v2.toNatClampNeg) * 10) + (I kx_likes_before v1.toNatClampNeg)).toNatClampNeg) - 1)), ab_RR, n, nc, ns) (.inl (some (.int r8)), (I9, (ab_upL (ab_upL (ab_upL (ab_upL L kx_likes_matrix (((I kx_likes_before v1.toNatClampNeg) * 10) + (I kx_likes_before v1.toNatClampNeg)).toNatClampNeg ((L kx_likes_matrix (((I kx_likes_before v1.toNatClampNeg) * 10) + (I kx_likes_before v1.toNatClampNeg)).toNatClampNeg) + 1)) kx_likes_matrix (((I kx_likes_before v2.toNatClampNeg) * 10) + (I kx_likes_before v2.toNatClampNeg)).toNatClampNeg (((ab_upL L kx_likes_matrix (((I kx_likes_before v1.toNatClampNeg) * 10) + (I kx_likes_before v1.toNatClampNeg)).toNatClampNeg ((L kx_likes_matrix (((I kx_likes_before v1.toNatClampNeg) * 10) + (I kx_likes_before v1.toNatClampNeg)).toNatClampNeg) + 1)) kx_likes_matrix (((I kx_likes_before v2.toNatClampNeg) * 10) + (I kx_likes_before v2.toNatClampNeg)).toNatClampNeg) + 1)) kx_likes_matrix (((I kx_likes_before v1.toNatClampNeg) * 10) + (I kx_likes_before v2.toNatClampNeg)).toNatClampNeg (((ab_upL (ab_upL L kx_likes_matrix (((I kx_likes_before v1.toNatClampNeg) * 10) + (I kx_likes_before v1.toNatClampNeg)).toNatClampNeg ((L kx_likes_matrix (((I kx_likes_before v1.toNatClampNeg) * 10) + (I kx_likes_before v1.toNatClampNeg)).toNatClampNeg) + 1)) kx_likes_matrix (((I kx_likes_before v2.toNatClampNeg) * 10) + (I kx_likes_before v2.toNatClampNeg)).toNatClampNeg (((ab_upL L kx_likes_matrix (((I kx_likes_before v1.toNatClampNeg) * 10) + (I kx_likes_before v1.toNatClampNeg)).toNatClampNeg ((L kx_likes_matrix (((I kx_likes_before v1.toNatClampNeg) * 10) + (I kx_likes_before v1.toNatClampNeg)).toNatClampNeg) + 1)) kx_likes_matrix (((I kx_likes_before v2.toNatClampNeg) * 10) + (I kx_likes_before v2.toNatClampNeg)).toNatClampNeg) + 1)) kx_likes_matrix (((I kx_likes_before v1.toNatClampNeg) * 10) + (I kx_likes_before v2.toNatClampNeg)).toNatClampNeg) - 1)) kx_likes_matrix (((I kx_likes_before v2.toNatClampNeg) * 10) + (I kx_likes_before v1.toNatClampNeg)).toNatClampNeg (((ab_upL (ab_upL (ab_upL L kx_likes_matrix (((I kx_likes_before v1.toNatClampNeg) * 10) + (I kx_likes_before v1.toNatClampNeg)).toNatClampNeg ((L kx_likes_matrix (((I kx_likes_before v1.toNatClampNeg) * 10) + (I kx_likes_before v1.toNatClampNeg)).toNatClampNeg) + 1)) kx_likes_matrix (((I kx_likes_before v2.toNatClampNeg) * 10) + (I kx_likes_before v2.toNatClampNeg)).toNatClampNeg (((ab_upL L kx_likes_matrix (((I kx_likes_before v1.toNatClampNeg) * 10) + (I kx_likes_before v1.toNatClampNeg)).toNatClampNeg ((L kx_likes_matrix (((I kx_likes_before v1.toNatClampNeg) * 10) + (I kx_likes_before v1.toNatClampNeg)).toNatClampNeg) + 1)) kx_likes_matrix (((I kx_likes_before v2.toNatClampNeg) * 10) + (I kx_likes_before v2.toNatClampNeg)).toNatClampNeg) + 1)) kx_likes_matrix (((I kx_likes_before v1.toNatClampNeg) * 10) + (I kx_likes_before v2.toNatClampNeg)).toNatClampNeg (((ab_upL (ab_upL L kx_likes_matrix (((I kx_likes_before v1.toNatClampNeg) * 10) + (I kx_likes_before v1.toNatClampNeg)).toNatClampNeg ((L kx_likes_matrix (((I kx_likes_before v1.toNatClampNeg) * 10) + (I kx_likes_before v1.toNatClampNeg)).toNatClampNeg) + 1)) kx_likes_matrix (((I kx_likes_before v2.toNatClampNeg) * 10) + (I kx_likes_before v2.toNatClampNeg)).toNatClampNeg (((ab_upL L kx_likes_matrix (((I kx_likes_before v1.toNatClampNeg) * 10) + (I kx_likes_before v1.toNatClampNeg)).toNatClampNeg ((L kx_likes_matrix (((I kx_likes_before v1.toNatClampNeg) * 10) + (I kx_likes_before v1.toNatClampNeg)).toNatClampNeg) + 1)) kx_likes_matrix (((I kx_likes_before v2.toNatClampNeg) * 10) + (I kx_likes_before v2.toNatClampNeg)).toNatClampNeg) + 1)) kx_likes_matrix (((I kx_likes_before v1.toNatClampNeg) * 10) + (I kx_likes_before v2.toNatClampNeg)).toNatClampNeg) - 1)) kx_likes_matrix (((I kx_likes_before v2.toNatClampNeg) * 10) + (I kx_likes_before v1.toNatClampNeg)).toNatClampNeg) - 1)), ab_RR, n, nc, ns)) ∧ res = (.inl none, (I9, (ab_upL (ab_upL (ab_upL (ab_upL L kx_likes_matrix (((I kx_likes_before v1.toNatClampNeg) * 10) + (I kx_likes_before v1.toNatClampNeg)).toNatClampNeg ((L kx_likes_matrix (((I kx_likes_before v1.toNatClampNeg) * 10) + (I kx_likes_before v1.toNatClampNeg)).toNatClampNeg) + 1)) kx_likes_matrix (((I kx_likes_before v2.toNatClampNeg) * 10) + (I kx_likes_before v2.toNatClampNeg)).toNatClampNeg (((ab_upL L kx_likes_matrix (((I kx_likes_before v1.toNatClampNeg) * 10) + (I kx_likes_before v1.toNatClampNeg)).toNatClampNeg ((L kx_likes_matrix (((I kx_likes_before v1.toNatClampNeg) * 10) + (I kx_likes_before v1.toNatClampNeg)).toNatClampNeg) + 1)) kx_likes_matrix (((I kx_likes_before v2.toNatClampNeg) * 10) + (I kx_likes_before v2.toNatClampNeg)).toNatClampNeg) + 1)) kx_likes_matrix (((I kx_likes_before v1.toNatClampNeg) * 10) + (I kx_likes_before v2.toNatClampNeg)).toNatClampNeg (((ab_upL (ab_upL L kx_likes_matrix (((I kx_likes_before v1.toNatClampNeg) * 10) + (I kx_likes_before v1.toNatClampNeg)).toNatClampNeg ((L kx_likes_matrix (((I kx_likes_before v1.toNatClampNeg) * 10) + (I kx_likes_before v1.toNatClampNeg)).toNatClampNeg) + 1)) kx_likes_matrix (((I kx_likes_before v2.toNatClampNeg) * 10) + (I kx_likes_before v2.toNatClampNeg)).toNatClampNeg (((ab_upL L kx_likes_matrix (((I kx_likes_before v1.toNatClampNeg) * 10) + (I kx_likes_before v1.toNatClampNeg)).toNatClampNeg ((L kx_likes_matrix (((I kx_likes_before v1.toNatClampNeg) * 10) + (I kx_likes_before v1.toNatClampNeg)).toNatClampNeg) + 1)) kx_likes_matrix (((I kx_likes_before v2.toNatClampNeg) * 10) + (I kx_likes_before v2.toNatClampNeg)).toNatClampNeg) + 1)) kx_likes_matrix (((I kx_likes_before v1.toNatClampNeg) * 10) + (I kx_likes_before v2.toNatClampNeg)).toNatClampNeg) - 1)) kx_likes_matrix (((I kx_likes_before v2.toNatClampNeg) * 10) + (I kx_likes_before v1.toNatClampNeg)).toNatClampNeg (((ab_upL (ab_upL (ab_upL L kx_likes_matrix (((I kx_likes_before v1.toNatClampNeg) * 10) + (I kx_likes_before v1.toNatClampNeg)).toNatClampNeg ((L kx_likes_matrix (((I kx_likes_before v1.toNatClampNeg) * 10) + (I kx_likes_before v1.toNatClampNeg)).toNatClampNeg) + 1)) kx_likes_matrix (((I kx_likes_before v2.toNatClampNeg) * 10) + (I kx_likes_before v2.toNatClampNeg)).toNatClampNeg (((ab_upL L kx_likes_matrix (((I kx_likes_before v1.toNatClampNeg) * 10) + (I kx_likes_before v1.toNatClampNeg)).toNatClampNeg ((L kx_likes_matrix (((I kx_likes_before v1.toNatClampNeg) * 10) + (I kx_likes_before v1.toNatClampNeg)).toNatClampNeg) + 1)) kx_likes_matrix (((I kx_likes_before v2.toNatClampNeg) * 10) + (I kx_likes_before v2.toNatClampNeg)).toNatClampNeg) + 1)) kx_likes_matrix (((I kx_likes_before v1.toNatClampNeg) * 10) + (I kx_likes_before v2.toNatClampNeg)).toNatClampNeg (((ab_upL (ab_upL L kx_likes_matrix (((I kx_likes_before v1.toNatClampNeg) * 10) + (I kx_likes_before v1.toNatClampNeg)).toNatClampNeg ((L kx_likes_matrix (((I kx_likes_before v1.toNatClampNeg) * 10) + (I kx_likes_before v1.toNatClampNeg)).toNatClampNeg) + 1)) kx_likes_matrix (((I kx_likes_before v2.toNatClampNeg) * 10) + (I kx_likes_before v2.toNatClampNeg)).toNatClampNeg (((ab_upL L kx_likes_matrix (((I kx_likes_before v1.toNatClampNeg) * 10) + (I kx_likes_before v1.toNatClampNeg)).toNatClampNeg ((L kx_likes_matrix (((I kx_likes_before v1.toNatClampNeg) * 10) + (I kx_likes_before v1.toNatClampNeg)).toNatClampNeg) + 1)) kx_likes_matrix (((I kx_likes_before v2.toNatClampNeg) * 10) + (I kx_likes_before v2.toNatClampNeg)).toNatClampNeg) + 1)) kx_likes_matrix (((I kx_likes_before v1.toNatClampNeg) * 10) + (I kx_likes_before v2.toNatClampNeg)).toNatClampNeg) - 1)) kx_likes_matrix (((I kx_likes_before v2.toNatClampNeg) * 10) + (I kx_likes_before v1.toNatClampNeg)).toNatClampNeg) - 1)), ab_RR, n, nc, ns)))) ∧ ((I kx_likes_before v1.toNatClampNeg) = (I kx_likes_before v2.toNatClampNeg) → (res = (.inl none, (I, L, ab_RR, n, nc, ns)))))) : ab_E w (d + 1) mt_Likes_enter 0 [.ref kx_likes, .int v1, .int v2, .null, .null] [] (I, L, ab_RR, n, nc, ns) res := by
  refine ab_aload_n (i := 0) d_Likes_enter_0 rfl rfl ?_
  refine ab_getR (ci := 3) (k := 0) (j := kx_likes_before) d_Likes_enter_1 v_407 rfl (by decide) (by decide) rfl r_kx_likes_0 ?_
  refine ab_iload_n (i := 1) d_Likes_enter_4 rfl rfl ?_
  have g1 := h.1; have h := h.2
  refine ab_iald d_Likes_enter_5 rfl rfl g1 ?_
  refine ab_istore_n (i := 3) d_Likes_enter_6 rfl (by decide) (Or.inr rfl) ?_
  refine ab_aload_n (i := 0) d_Likes_enter_7 rfl rfl ?_
  refine ab_getR (ci := 3) (k := 0) (j := kx_likes_before) d_Likes_enter_8 v_407 rfl (by decide) (by decide) rfl r_kx_likes_0 ?_
  refine ab_iload_n (i := 2) d_Likes_enter_11 rfl rfl ?_
  have g2 := h.1; have h := h.2
  refine ab_iald d_Likes_enter_12 rfl rfl g2 ?_
  refine ab_istore (i := 4) d_Likes_enter_13 (by decide) (Or.inr rfl) ?_
  refine ab_iload_n (i := 3) d_Likes_enter_15 rfl rfl ?_
  refine ab_iload (i := 4) d_Likes_enter_16 rfl ?_
  refine ab_icmp_ne (tgt := 22) d_Likes_enter_18 (by decide) (fun c3 => ?_) (fun c3 => ?_)
  · have h := h.1 c3
    refine ab_aload_n (i := 0) d_Likes_enter_22 rfl rfl ?_
    refine ab_getR (ci := 3) (k := 2) (j := kx_likes_matrix) d_Likes_enter_23 v_409 rfl (by decide) (by decide) rfl r_kx_likes_2 ?_
    refine ab_iload_n (i := 3) d_Likes_enter_26 rfl rfl ?_
    refine ab_bipush (v := 10) d_Likes_enter_27 rfl ?_
    refine ab_imul d_Likes_enter_29 ?_
    refine ab_iload_n (i := 3) d_Likes_enter_30 rfl rfl ?_
    refine ab_iadd d_Likes_enter_31 ?_
    refine ab_dup2 d_Likes_enter_32 ?_
    have g4 := h.1; have h := h.2
    refine ab_lald d_Likes_enter_33 rfl rfl g4 ?_
    refine ab_lconst (v := 1) d_Likes_enter_34 rfl ?_
    refine ab_ladd d_Likes_enter_35 ?_
    refine ab_last d_Likes_enter_36 rfl rfl g4 ?_
    refine ab_aload_n (i := 0) d_Likes_enter_37 rfl rfl ?_
    refine ab_getR (ci := 3) (k := 2) (j := kx_likes_matrix) d_Likes_enter_38 v_409 rfl (by decide) (by decide) rfl r_kx_likes_2 ?_
    refine ab_iload (i := 4) d_Likes_enter_41 rfl ?_
    refine ab_bipush (v := 10) d_Likes_enter_43 rfl ?_
    refine ab_imul d_Likes_enter_45 ?_
    refine ab_iload (i := 4) d_Likes_enter_46 rfl ?_
    refine ab_iadd d_Likes_enter_48 ?_
    refine ab_dup2 d_Likes_enter_49 ?_
    have g5 := h.1; have h := h.2
    refine ab_lald d_Likes_enter_50 rfl rfl g5 ?_
    refine ab_lconst (v := 1) d_Likes_enter_51 rfl ?_
    refine ab_ladd d_Likes_enter_52 ?_
    refine ab_last d_Likes_enter_53 rfl rfl g5 ?_
    refine ab_aload_n (i := 0) d_Likes_enter_54 rfl rfl ?_
    refine ab_getR (ci := 3) (k := 2) (j := kx_likes_matrix) d_Likes_enter_55 v_409 rfl (by decide) (by decide) rfl r_kx_likes_2 ?_
    refine ab_iload_n (i := 3) d_Likes_enter_58 rfl rfl ?_
    refine ab_bipush (v := 10) d_Likes_enter_59 rfl ?_
    refine ab_imul d_Likes_enter_61 ?_
    refine ab_iload (i := 4) d_Likes_enter_62 rfl ?_
    refine ab_iadd d_Likes_enter_64 ?_
    refine ab_dup2 d_Likes_enter_65 ?_
    have g6 := h.1; have h := h.2
    refine ab_lald d_Likes_enter_66 rfl rfl g6 ?_
    refine ab_lconst (v := 1) d_Likes_enter_67 rfl ?_
    refine ab_lsub d_Likes_enter_68 ?_
    refine ab_last d_Likes_enter_69 rfl rfl g6 ?_
    refine ab_aload_n (i := 0) d_Likes_enter_70 rfl rfl ?_
    refine ab_getR (ci := 3) (k := 2) (j := kx_likes_matrix) d_Likes_enter_71 v_409 rfl (by decide) (by decide) rfl r_kx_likes_2 ?_
    refine ab_iload (i := 4) d_Likes_enter_74 rfl ?_
    refine ab_bipush (v := 10) d_Likes_enter_76 rfl ?_
    refine ab_imul d_Likes_enter_78 ?_
    refine ab_iload_n (i := 3) d_Likes_enter_79 rfl rfl ?_
    refine ab_iadd d_Likes_enter_80 ?_
    refine ab_dup2 d_Likes_enter_81 ?_
    have g7 := h.1; have h := h.2
    refine ab_lald d_Likes_enter_82 rfl rfl g7 ?_
    refine ab_lconst (v := 1) d_Likes_enter_83 rfl ?_
    refine ab_lsub d_Likes_enter_84 ?_
    refine ab_last d_Likes_enter_85 rfl rfl g7 ?_
    refine ab_aload_n (i := 0) d_Likes_enter_86 rfl rfl ?_
    refine ab_getR (ci := 3) (k := 1) (j := kx_likes_behind) d_Likes_enter_87 v_408 rfl (by decide) (by decide) rfl r_kx_likes_1 ?_
    refine ab_iload_n (i := 3) d_Likes_enter_90 rfl rfl ?_
    refine ab_iload (i := 4) d_Likes_enter_91 rfl ?_
    obtain ⟨r8, I9, hC, h⟩ := h
    refine ab_callS (me2 := mt_K_unite) (as := [.ref kx_likes_behind, .int (I kx_likes_before v1.toNatClampNeg), .int (I kx_likes_before v2.toNatClampNeg)]) (st := []) (rv := (some (.int r8))) (M2 := (I9, (ab_upL (ab_upL (ab_upL (ab_upL L kx_likes_matrix (((I kx_likes_before v1.toNatClampNeg) * 10) + (I kx_likes_before v1.toNatClampNeg)).toNatClampNeg ((L kx_likes_matrix (((I kx_likes_before v1.toNatClampNeg) * 10) + (I kx_likes_before v1.toNatClampNeg)).toNatClampNeg) + 1)) kx_likes_matrix (((I kx_likes_before v2.toNatClampNeg) * 10) + (I kx_likes_before v2.toNatClampNeg)).toNatClampNeg (((ab_upL L kx_likes_matrix (((I kx_likes_before v1.toNatClampNeg) * 10) + (I kx_likes_before v1.toNatClampNeg)).toNatClampNeg ((L kx_likes_matrix (((I kx_likes_before v1.toNatClampNeg) * 10) + (I kx_likes_before v1.toNatClampNeg)).toNatClampNeg) + 1)) kx_likes_matrix (((I kx_likes_before v2.toNatClampNeg) * 10) + (I kx_likes_before v2.toNatClampNeg)).toNatClampNeg) + 1)) kx_likes_matrix (((I kx_likes_before v1.toNatClampNeg) * 10) + (I kx_likes_before v2.toNatClampNeg)).toNatClampNeg (((ab_upL (ab_upL L kx_likes_matrix (((I kx_likes_before v1.toNatClampNeg) * 10) + (I kx_likes_before v1.toNatClampNeg)).toNatClampNeg ((L kx_likes_matrix (((I kx_likes_before v1.toNatClampNeg) * 10) + (I kx_likes_before v1.toNatClampNeg)).toNatClampNeg) + 1)) kx_likes_matrix (((I kx_likes_before v2.toNatClampNeg) * 10) + (I kx_likes_before v2.toNatClampNeg)).toNatClampNeg (((ab_upL L kx_likes_matrix (((I kx_likes_before v1.toNatClampNeg) * 10) + (I kx_likes_before v1.toNatClampNeg)).toNatClampNeg ((L kx_likes_matrix (((I kx_likes_before v1.toNatClampNeg) * 10) + (I kx_likes_before v1.toNatClampNeg)).toNatClampNeg) + 1)) kx_likes_matrix (((I kx_likes_before v2.toNatClampNeg) * 10) + (I kx_likes_before v2.toNatClampNeg)).toNatClampNeg) + 1)) kx_likes_matrix (((I kx_likes_before v1.toNatClampNeg) * 10) + (I kx_likes_before v2.toNatClampNeg)).toNatClampNeg) - 1)) kx_likes_matrix (((I kx_likes_before v2.toNatClampNeg) * 10) + (I kx_likes_before v1.toNatClampNeg)).toNatClampNeg (((ab_upL (ab_upL (ab_upL L kx_likes_matrix (((I kx_likes_before v1.toNatClampNeg) * 10) + (I kx_likes_before v1.toNatClampNeg)).toNatClampNeg ((L kx_likes_matrix (((I kx_likes_before v1.toNatClampNeg) * 10) + (I kx_likes_before v1.toNatClampNeg)).toNatClampNeg) + 1)) kx_likes_matrix (((I kx_likes_before v2.toNatClampNeg) * 10) + (I kx_likes_before v2.toNatClampNeg)).toNatClampNeg (((ab_upL L kx_likes_matrix (((I kx_likes_before v1.toNatClampNeg) * 10) + (I kx_likes_before v1.toNatClampNeg)).toNatClampNeg ((L kx_likes_matrix (((I kx_likes_before v1.toNatClampNeg) * 10) + (I kx_likes_before v1.toNatClampNeg)).toNatClampNeg) + 1)) kx_likes_matrix (((I kx_likes_before v2.toNatClampNeg) * 10) + (I kx_likes_before v2.toNatClampNeg)).toNatClampNeg) + 1)) kx_likes_matrix (((I kx_likes_before v1.toNatClampNeg) * 10) + (I kx_likes_before v2.toNatClampNeg)).toNatClampNeg (((ab_upL (ab_upL L kx_likes_matrix (((I kx_likes_before v1.toNatClampNeg) * 10) + (I kx_likes_before v1.toNatClampNeg)).toNatClampNeg ((L kx_likes_matrix (((I kx_likes_before v1.toNatClampNeg) * 10) + (I kx_likes_before v1.toNatClampNeg)).toNatClampNeg) + 1)) kx_likes_matrix (((I kx_likes_before v2.toNatClampNeg) * 10) + (I kx_likes_before v2.toNatClampNeg)).toNatClampNeg (((ab_upL L kx_likes_matrix (((I kx_likes_before v1.toNatClampNeg) * 10) + (I kx_likes_before v1.toNatClampNeg)).toNatClampNeg ((L kx_likes_matrix (((I kx_likes_before v1.toNatClampNeg) * 10) + (I kx_likes_before v1.toNatClampNeg)).toNatClampNeg) + 1)) kx_likes_matrix (((I kx_likes_before v2.toNatClampNeg) * 10) + (I kx_likes_before v2.toNatClampNeg)).toNatClampNeg) + 1)) kx_likes_matrix (((I kx_likes_before v1.toNatClampNeg) * 10) + (I kx_likes_before v2.toNatClampNeg)).toNatClampNeg) - 1)) kx_likes_matrix (((I kx_likes_before v2.toNatClampNeg) * 10) + (I kx_likes_before v1.toNatClampNeg)).toNatClampNeg) - 1)), ab_RR, n, nc, ns)) d_Likes_enter_93 ce_K_unite ⟨v_445, Or.inr ⟨_, u_547⟩⟩ (Nat.le_of_ble_eq_true rfl) hC (Nat.le_refl _) (Nat.le_refl _) hc hs (fun j h9 => by cases h9) (fun _ _ => rfl) ?_
    show ab_E w (d + 1) mt_Likes_enter 96 [.ref kx_likes, .int v1, .int v2, .int (I kx_likes_before v1.toNatClampNeg), .int (I kx_likes_before v2.toNatClampNeg)] [.int r8] (I9, (ab_upL (ab_upL (ab_upL (ab_upL L kx_likes_matrix (((I kx_likes_before v1.toNatClampNeg) * 10) + (I kx_likes_before v1.toNatClampNeg)).toNatClampNeg ((L kx_likes_matrix (((I kx_likes_before v1.toNatClampNeg) * 10) + (I kx_likes_before v1.toNatClampNeg)).toNatClampNeg) + 1)) kx_likes_matrix (((I kx_likes_before v2.toNatClampNeg) * 10) + (I kx_likes_before v2.toNatClampNeg)).toNatClampNeg (((ab_upL L kx_likes_matrix (((I kx_likes_before v1.toNatClampNeg) * 10) + (I kx_likes_before v1.toNatClampNeg)).toNatClampNeg ((L kx_likes_matrix (((I kx_likes_before v1.toNatClampNeg) * 10) + (I kx_likes_before v1.toNatClampNeg)).toNatClampNeg) + 1)) kx_likes_matrix (((I kx_likes_before v2.toNatClampNeg) * 10) + (I kx_likes_before v2.toNatClampNeg)).toNatClampNeg) + 1)) kx_likes_matrix (((I kx_likes_before v1.toNatClampNeg) * 10) + (I kx_likes_before v2.toNatClampNeg)).toNatClampNeg (((ab_upL (ab_upL L kx_likes_matrix (((I kx_likes_before v1.toNatClampNeg) * 10) + (I kx_likes_before v1.toNatClampNeg)).toNatClampNeg ((L kx_likes_matrix (((I kx_likes_before v1.toNatClampNeg) * 10) + (I kx_likes_before v1.toNatClampNeg)).toNatClampNeg) + 1)) kx_likes_matrix (((I kx_likes_before v2.toNatClampNeg) * 10) + (I kx_likes_before v2.toNatClampNeg)).toNatClampNeg (((ab_upL L kx_likes_matrix (((I kx_likes_before v1.toNatClampNeg) * 10) + (I kx_likes_before v1.toNatClampNeg)).toNatClampNeg ((L kx_likes_matrix (((I kx_likes_before v1.toNatClampNeg) * 10) + (I kx_likes_before v1.toNatClampNeg)).toNatClampNeg) + 1)) kx_likes_matrix (((I kx_likes_before v2.toNatClampNeg) * 10) + (I kx_likes_before v2.toNatClampNeg)).toNatClampNeg) + 1)) kx_likes_matrix (((I kx_likes_before v1.toNatClampNeg) * 10) + (I kx_likes_before v2.toNatClampNeg)).toNatClampNeg) - 1)) kx_likes_matrix (((I kx_likes_before v2.toNatClampNeg) * 10) + (I kx_likes_before v1.toNatClampNeg)).toNatClampNeg (((ab_upL (ab_upL (ab_upL L kx_likes_matrix (((I kx_likes_before v1.toNatClampNeg) * 10) + (I kx_likes_before v1.toNatClampNeg)).toNatClampNeg ((L kx_likes_matrix (((I kx_likes_before v1.toNatClampNeg) * 10) + (I kx_likes_before v1.toNatClampNeg)).toNatClampNeg) + 1)) kx_likes_matrix (((I kx_likes_before v2.toNatClampNeg) * 10) + (I kx_likes_before v2.toNatClampNeg)).toNatClampNeg (((ab_upL L kx_likes_matrix (((I kx_likes_before v1.toNatClampNeg) * 10) + (I kx_likes_before v1.toNatClampNeg)).toNatClampNeg ((L kx_likes_matrix (((I kx_likes_before v1.toNatClampNeg) * 10) + (I kx_likes_before v1.toNatClampNeg)).toNatClampNeg) + 1)) kx_likes_matrix (((I kx_likes_before v2.toNatClampNeg) * 10) + (I kx_likes_before v2.toNatClampNeg)).toNatClampNeg) + 1)) kx_likes_matrix (((I kx_likes_before v1.toNatClampNeg) * 10) + (I kx_likes_before v2.toNatClampNeg)).toNatClampNeg (((ab_upL (ab_upL L kx_likes_matrix (((I kx_likes_before v1.toNatClampNeg) * 10) + (I kx_likes_before v1.toNatClampNeg)).toNatClampNeg ((L kx_likes_matrix (((I kx_likes_before v1.toNatClampNeg) * 10) + (I kx_likes_before v1.toNatClampNeg)).toNatClampNeg) + 1)) kx_likes_matrix (((I kx_likes_before v2.toNatClampNeg) * 10) + (I kx_likes_before v2.toNatClampNeg)).toNatClampNeg (((ab_upL L kx_likes_matrix (((I kx_likes_before v1.toNatClampNeg) * 10) + (I kx_likes_before v1.toNatClampNeg)).toNatClampNeg ((L kx_likes_matrix (((I kx_likes_before v1.toNatClampNeg) * 10) + (I kx_likes_before v1.toNatClampNeg)).toNatClampNeg) + 1)) kx_likes_matrix (((I kx_likes_before v2.toNatClampNeg) * 10) + (I kx_likes_before v2.toNatClampNeg)).toNatClampNeg) + 1)) kx_likes_matrix (((I kx_likes_before v1.toNatClampNeg) * 10) + (I kx_likes_before v2.toNatClampNeg)).toNatClampNeg) - 1)) kx_likes_matrix (((I kx_likes_before v2.toNatClampNeg) * 10) + (I kx_likes_before v1.toNatClampNeg)).toNatClampNeg) - 1)), ab_RR, n, nc, ns) res
    refine ab_popi d_Likes_enter_96 ?_
    exact ab_vret d_Likes_enter_97 rfl h
  · have h := h.2 c3
    exact ab_vret d_Likes_enter_21 rfl h
theorem r_Likes_passPrice_0 {w : ab_Wd} {d n nc ns : Nat} {I : Nat → Nat → Int32} {L : Nat → Nat → Int64} {res : ab_Re} (hT : w.1.stackTraces = false)  (hc : nc ≤ res.2.2.2.2.2.1) (hs : ns ≤ res.2.2.2.2.2.2)
    (h : ∃ (L2 : Nat → Nat → Int64), ab_C w d mt_Likes_clearMatrix [.ref kx_likes] ((ab_row I kx_likes_before (va_cpy (I kx_likes_behind) (I kx_likes_before) 0 0 10)), L, ab_RR, n, nc, ns) (.inl none, ((ab_row I kx_likes_before (va_cpy (I kx_likes_behind) (I kx_likes_before) 0 0 10)), L2, ab_RR, n, nc, ns)) ∧ res = (.inl none, ((ab_row I kx_likes_before (va_cpy (I kx_likes_behind) (I kx_likes_before) 0 0 10)), L2, ab_RR, n, nc, ns))) : ab_E w (d + 1) mt_Likes_passPrice 0 [.ref kx_likes] [] (I, L, ab_RR, n, nc, ns) res := by
  refine ab_aload_n (i := 0) d_Likes_passPrice_0 rfl rfl ?_
  refine ab_getR (ci := 3) (k := 1) (j := kx_likes_behind) d_Likes_passPrice_1 v_408 rfl (by decide) (by decide) rfl r_kx_likes_1 ?_
  refine ab_iconst (v := 0) d_Likes_passPrice_4 rfl ?_
  refine ab_aload_n (i := 0) d_Likes_passPrice_5 rfl rfl ?_
  refine ab_getR (ci := 3) (k := 0) (j := kx_likes_before) d_Likes_passPrice_6 v_407 rfl (by decide) (by decide) rfl r_kx_likes_0 ?_
  refine ab_iconst (v := 0) d_Likes_passPrice_9 rfl ?_
  refine ab_bipush (v := 10) d_Likes_passPrice_10 rfl ?_
  refine ab_copy d_Likes_passPrice_12 v_560 v_562 v_561 v_161 rfl rfl rfl rfl (by decide) (by decide) (by decide) (by decide) (by decide) (Nat.succ_le_succ (Nat.zero_le _)) (Nat.le_of_ble_eq_true rfl) ?_
  refine ab_aload_n (i := 0) d_Likes_passPrice_15 rfl rfl ?_
  obtain ⟨L2, hC, h⟩ := h
  refine ab_callV (me2 := mt_Likes_clearMatrix) (b := kx_likes) (as := []) (st := []) (rv := none) (M2 := ((ab_row I kx_likes_before (va_cpy (I kx_likes_behind) (I kx_likes_before) 0 0 10)), L2, ab_RR, n, nc, ns)) d_Likes_passPrice_16 ce_Likes_clearMatrix v_535 v_537 v_5 (by decide) rfl (Nat.le_of_ble_eq_true rfl) hC (Nat.le_refl _) (Nat.le_refl _) hc hs (fun j h9 => by cases h9) (fun _ _ => rfl) ?_
  show ab_E w (d + 1) mt_Likes_passPrice 19 [.ref kx_likes] [] ((ab_row I kx_likes_before (va_cpy (I kx_likes_behind) (I kx_likes_before) 0 0 10)), L2, ab_RR, n, nc, ns) res
  exact ab_vret d_Likes_passPrice_19 rfl h
theorem cx_Teller_putSign_0 {w : ab_Wd} {d n nc ns : Nat} {I : Nat → Nat → Int32} {L : Nat → Nat → Int64} (v1 : Int32) (hT : w.1.stackTraces = false) (e1 : 700 ≤ (I kx_teller 1)) : ab_C w d mt_Teller_putSign [.ref kx_teller, .int v1] (I, L, ab_RR, n, nc, ns) (.inl none, (I, L, ab_RR, n, nc, ns)) := by
  refine ab_C_of (by decide) rfl (Nat.le_of_ble_eq_true rfl) hT ?_
  have hc := Nat.le_refl nc
  have hs := Nat.le_refl ns
  refine ab_aload_n (i := 0) d_Teller_putSign_0 rfl rfl ?_
  refine ab_getI (ci := 8) (k := 1) d_Teller_putSign_1 v_429 rfl (by decide) (by decide) rfl ?_
  refine ab_aload_n (i := 0) d_Teller_putSign_4 rfl rfl ?_
  refine ab_getR (ci := 8) (k := 0) (j := kx_teller_text) d_Teller_putSign_5 v_427 rfl (by decide) (by decide) rfl r_kx_teller_0 ?_
  refine ab_alen (v := 700) d_Teller_putSign_8 (by decide) (by decide) rfl ?_
  refine ab_icmp_ge (tgt := 33) d_Teller_putSign_9 (by decide) (fun _ => ?_) (fun c9 => absurd e1 c9)
  exact ab_vret d_Teller_putSign_33 rfl rfl
theorem cx_Teller_putSign_1 {w : ab_Wd} {d n nc ns : Nat} {I : Nat → Nat → Int32} {L : Nat → Nat → Int64} (v1 : Int32) (hT : w.1.stackTraces = false) (e1 : ¬ 700 ≤ (I kx_teller 1)) (e2 : (vp_in (I kx_teller 1) 700)) : ab_C w d mt_Teller_putSign [.ref kx_teller, .int v1] (I, L, ab_RR, n, nc, ns) (.inl none, ((ab_up (ab_up I kx_teller_text (I kx_teller 1).toNatClampNeg (vp_nar .byte (ab_i2b8 v1))) kx_teller 1 ((I kx_teller 1) + 1)), L, ab_RR, n, nc, ns)) := by
  refine ab_C_of (by decide) rfl (Nat.le_of_ble_eq_true rfl) hT ?_
  have hc := Nat.le_refl nc
  have hs := Nat.le_refl ns
  refine ab_aload_n (i := 0) d_Teller_putSign_0 rfl rfl ?_
  refine ab_getI (ci := 8) (k := 1) d_Teller_putSign_1 v_429 rfl (by decide) (by decide) rfl ?_
  refine ab_aload_n (i := 0) d_Teller_putSign_4 rfl rfl ?_
  refine ab_getR (ci := 8) (k := 0) (j := kx_teller_text) d_Teller_putSign_5 v_427 rfl (by decide) (by decide) rfl r_kx_teller_0 ?_
  refine ab_alen (v := 700) d_Teller_putSign_8 (by decide) (by decide) rfl ?_
  refine ab_icmp_ge (tgt := 33) d_Teller_putSign_9 (by decide) (fun c9 => absurd c9 e1) (fun _ => ?_)
  refine ab_aload_n (i := 0) d_Teller_putSign_12 rfl rfl ?_
  refine ab_getR (ci := 8) (k := 0) (j := kx_teller_text) d_Teller_putSign_13 v_427 rfl (by decide) (by decide) rfl r_kx_teller_0 ?_
  refine ab_aload_n (i := 0) d_Teller_putSign_16 rfl rfl ?_
  refine ab_getI (ci := 8) (k := 1) d_Teller_putSign_17 v_429 rfl (by decide) (by decide) rfl ?_
  refine ab_iload_n (i := 1) d_Teller_putSign_20 rfl rfl ?_
  refine ab_i2b d_Teller_putSign_21 ?_
  refine ab_bast d_Teller_putSign_22 rfl rfl e2 ?_
  refine ab_aload_n (i := 0) d_Teller_putSign_23 rfl rfl ?_
  refine ab_dupr d_Teller_putSign_24 ?_
  refine ab_getI (ci := 8) (k := 1) d_Teller_putSign_25 v_429 rfl (by decide) (by decide) rfl ?_
  refine ab_iconst (v := 1) d_Teller_putSign_28 rfl ?_
  refine ab_iadd d_Teller_putSign_29 ?_
  refine ab_putI (ci := 8) (k := 1) d_Teller_putSign_30 v_429 rfl (by decide) (by decide) rfl (Or.inl rfl) rfl rfl ?_
  exact ab_vret d_Teller_putSign_33 rfl rfl
theorem r_Teller_put_I_0 {w : ab_Wd} {d n nc ns : Nat} {I : Nat → Nat → Int32} {L : Nat → Nat → Int64} {res : ab_Re} (hT : w.1.stackTraces = false) (v1 : Int32) (hc : nc ≤ res.2.2.2.2.2.1) (hs : ns ≤ res.2.2.2.2.2.2)
    (h : ((v1 ≤ 99 → ((v1 ≤ 9 → ((700 ≤ (I kx_teller 1) → (res = (.inl none, (I, L, ab_RR, n, nc, ns)))) ∧ (¬ 700 ≤ (I kx_teller 1) → ((vp_in (I kx_teller 1) 700) ∧ res = (.inl none, ((ab_up (ab_up I kx_teller_text (I kx_teller 1).toNatClampNeg (vp_nar .byte (ab_i2b8 (48 + (v1 - v1 / 10 * 10))))) kx_teller 1 ((I kx_teller 1) + 1)), L, ab_RR, n, nc, ns)))))) ∧ (¬ v1 ≤ 9 → ((700 ≤ (I kx_teller 1) → (res = (.inl none, (I, L, ab_RR, n, nc, ns)))) ∧ (¬ 700 ≤ (I kx_teller 1) → ((vp_in (I kx_teller 1) 700) ∧ ((700 ≤ ((I kx_teller 1) + 1) → (res = (.inl none, ((ab_up (ab_up I kx_teller_text (I kx_teller 1).toNatClampNeg (vp_nar .byte (ab_i2b8 (48 + ((v1 / 10) - (v1 / 10) / 10 * 10))))) kx_teller 1 ((I kx_teller 1) + 1)), L, ab_RR, n, nc, ns)))) ∧ (¬ 700 ≤ ((I kx_teller 1) + 1) → ((vp_in ((I kx_teller 1) + 1) 700) ∧ res = (.inl none, ((ab_up (ab_up (ab_up (ab_up I kx_teller_text (I kx_teller 1).toNatClampNeg (vp_nar .byte (ab_i2b8 (48 + ((v1 / 10) - (v1 / 10) / 10 * 10))))) kx_teller 1 ((I kx_teller 1) + 1)) kx_teller_text ((I kx_teller 1) + 1).toNatClampNeg (vp_nar .byte (ab_i2b8 (48 + (v1 - v1 / 10 * 10))))) kx_teller 1 (((I kx_teller 1) + 1) + 1)), L, ab_RR, n, nc, ns))))))))))) ∧ (¬ v1 ≤ 99 → ((700 ≤ (I kx_teller 1) → ((v1 ≤ 9 → (res = (.inl none, (I, L, ab_RR, n, nc, ns)))) ∧ (¬ v1 ≤ 9 → (res = (.inl none, (I, L, ab_RR, n, nc, ns)))))) ∧ (¬ 700 ≤ (I kx_teller 1) → ((vp_in (I kx_teller 1) 700) ∧ ((v1 ≤ 9 → ((700 ≤ ((I kx_teller 1) + 1) → (res = (.inl none, ((ab_up (ab_up I kx_teller_text (I kx_teller 1).toNatClampNeg (vp_nar .byte (ab_i2b8 (48 + (v1 / 100))))) kx_teller 1 ((I kx_teller 1) + 1)), L, ab_RR, n, nc, ns)))) ∧ (¬ 700 ≤ ((I kx_teller 1) + 1) → ((vp_in ((I kx_teller 1) + 1) 700) ∧ res = (.inl none, ((ab_up (ab_up (ab_up (ab_up I kx_teller_text (I kx_teller 1).toNatClampNeg (vp_nar .byte (ab_i2b8 (48 + (v1 / 100))))) kx_teller 1 ((I kx_teller 1) + 1)) kx_teller_text ((I kx_teller 1) + 1).toNatClampNeg (vp_nar .byte (ab_i2b8 (48 + (v1 - v1 / 10 * 10))))) kx_teller 1 (((I kx_teller 1) + 1) + 1)), L, ab_RR, n, nc, ns)))))) ∧ (¬ v1 ≤ 9 → ((700 ≤ ((I kx_teller 1) + 1) → (res = (.inl none, ((ab_up (ab_up I kx_teller_text (I kx_teller 1).toNatClampNeg (vp_nar .byte (ab_i2b8 (48 + (v1 / 100))))) kx_teller 1 ((I kx_teller 1) + 1)), L, ab_RR, n, nc, ns)))) ∧ (¬ 700 ≤ ((I kx_teller 1) + 1) → ((vp_in ((I kx_teller 1) + 1) 700) ∧ ((700 ≤ (((I kx_teller 1) + 1) + 1) → (res = (.inl none, ((ab_up (ab_up (ab_up (ab_up I kx_teller_text (I kx_teller 1).toNatClampNeg (vp_nar .byte (ab_i2b8 (48 + (v1 / 100))))) kx_teller 1 ((I kx_teller 1) + 1)) kx_teller_text ((I kx_teller 1) + 1).toNatClampNeg (vp_nar .byte (ab_i2b8 (48 + ((v1 / 10) - (v1 / 10) / 10 * 10))))) kx_teller 1 (((I kx_teller 1) + 1) + 1)), L, ab_RR, n, nc, ns)))) ∧ (¬ 700 ≤ (((I kx_teller 1) + 1) + 1) → ((vp_in (((I kx_teller 1) + 1) + 1) 700) ∧ res = (.inl none, ((ab_up (ab_up (ab_up (ab_up (ab_up (ab_up I kx_teller_text (I kx_teller 1).toNatClampNeg (vp_nar .byte (ab_i2b8 (48 + (v1 / 100))))) kx_teller 1 ((I kx_teller 1) + 1)) kx_teller_text ((I kx_teller 1) + 1).toNatClampNeg (vp_nar .byte (ab_i2b8 (48 + ((v1 / 10) - (v1 / 10) / 10 * 10))))) kx_teller 1 (((I kx_teller 1) + 1) + 1)) kx_teller_text (((I kx_teller 1) + 1) + 1).toNatClampNeg (vp_nar .byte (ab_i2b8 (48 + (v1 - v1 / 10 * 10))))) kx_teller 1 ((((I kx_teller 1) + 1) + 1) + 1)), L, ab_RR, n, nc, ns)))))))))))))))) : ab_E w (d + 1) mt_Teller_put_I 0 [.ref kx_teller, .int v1] [] (I, L, ab_RR, n, nc, ns) res := by
  refine ab_iload_n (i := 1) d_Teller_put_I_0 rfl rfl ?_
  refine ab_bipush (v := 99) d_Teller_put_I_1 rfl ?_
  refine ab_icmp_le (tgt := 17) d_Teller_put_I_3 (by decide) (fun c1 => ?_) (fun c1 => ?_)
  · have h := h.1 c1
    refine ab_iload_n (i := 1) d_Teller_put_I_17 rfl rfl ?_
    refine ab_bipush (v := 9) d_Teller_put_I_18 rfl ?_
    refine ab_icmp_le (tgt := 37) d_Teller_put_I_20 (by decide) (fun c2 => ?_) (fun c2 => ?_)
    · have h := h.1 c2
      refine ab_aload_n (i := 0) d_Teller_put_I_37 rfl rfl ?_
      refine ab_bipush (v := 48) d_Teller_put_I_38 rfl ?_
      refine ab_iload_n (i := 1) d_Teller_put_I_40 rfl rfl ?_
      refine ab_bipush (v := 10) d_Teller_put_I_41 rfl ?_
      refine ab_irem d_Teller_put_I_43 (by decide) ?_
      refine ab_iadd d_Teller_put_I_44 ?_
      by_cases c5 : 700 ≤ (I kx_teller 1)
      · have h := h.1 c5
        refine ab_callV (me2 := mt_Teller_putSign) (b := kx_teller) (as := [.int (48 + (v1 - v1 / 10 * 10))]) (st := []) (rv := none) (M2 := (I, L, ab_RR, n, nc, ns)) d_Teller_put_I_45 ce_Teller_putSign v_1230 v_1232 v_57 (by decide) rfl (Nat.le_of_ble_eq_true rfl) (cx_Teller_putSign_0 (48 + (v1 - v1 / 10 * 10)) hT c5) (Nat.le_refl _) (Nat.le_refl _) hc hs (fun j h9 => by cases h9) (fun _ _ => rfl) ?_
        show ab_E w (d + 1) mt_Teller_put_I 48 [.ref kx_teller, .int v1] [] (I, L, ab_RR, n, nc, ns) res
        exact ab_vret d_Teller_put_I_48 rfl h
      · have h := h.2 c5
        have g6 := h.1; have h := h.2
        refine ab_callV (me2 := mt_Teller_putSign) (b := kx_teller) (as := [.int (48 + (v1 - v1 / 10 * 10))]) (st := []) (rv := none) (M2 := ((ab_up (ab_up I kx_teller_text (I kx_teller 1).toNatClampNeg (vp_nar .byte (ab_i2b8 (48 + (v1 - v1 / 10 * 10))))) kx_teller 1 ((I kx_teller 1) + 1)), L, ab_RR, n, nc, ns)) d_Teller_put_I_45 ce_Teller_putSign v_1230 v_1232 v_57 (by decide) rfl (Nat.le_of_ble_eq_true rfl) (cx_Teller_putSign_1 (48 + (v1 - v1 / 10 * 10)) hT c5 g6) (Nat.le_refl _) (Nat.le_refl _) hc hs (fun j h9 => by cases h9) (fun _ _ => rfl) ?_
        show ab_E w (d + 1) mt_Teller_put_I 48 [.ref kx_teller, .int v1] [] ((ab_up (ab_up I kx_teller_text (I kx_teller 1).toNatClampNeg (vp_nar .byte (ab_i2b8 (48 + (v1 - v1 / 10 * 10))))) kx_teller 1 ((I kx_teller 1) + 1)), L, ab_RR, n, nc, ns) res
        exact ab_vret d_Teller_put_I_48 rfl h
    · have h := h.2 c2
      refine ab_aload_n (i := 0) d_Teller_put_I_23 rfl rfl ?_
      refine ab_bipush (v := 48) d_Teller_put_I_24 rfl ?_
      refine ab_iload_n (i := 1) d_Teller_put_I_26 rfl rfl ?_
      refine ab_bipush (v := 10) d_Teller_put_I_27 rfl ?_
      refine ab_idiv d_Teller_put_I_29 (by decide) ?_
      refine ab_bipush (v := 10) d_Teller_put_I_30 rfl ?_
      refine ab_irem d_Teller_put_I_32 (by decide) ?_
      refine ab_iadd d_Teller_put_I_33 ?_
      by_cases c9 : 700 ≤ (I kx_teller 1)
      · have h := h.1 c9
        refine ab_callV (me2 := mt_Teller_putSign) (b := kx_teller) (as := [.int (48 + ((v1 / 10) - (v1 / 10) / 10 * 10))]) (st := []) (rv := none) (M2 := (I, L, ab_RR, n, nc, ns)) d_Teller_put_I_34 ce_Teller_putSign v_1230 v_1232 v_57 (by decide) rfl (Nat.le_of_ble_eq_true rfl) (cx_Teller_putSign_0 (48 + ((v1 / 10) - (v1 / 10) / 10 * 10)) hT c9) (Nat.le_refl _) (Nat.le_refl _) hc hs (fun j h9 => by cases h9) (fun _ _ => rfl) ?_
        show ab_E w (d + 1) mt_Teller_put_I 37 [.ref kx_teller, .int v1] [] (I, L, ab_RR, n, nc, ns) res
        refine ab_aload_n (i := 0) d_Teller_put_I_37 rfl rfl ?_
        refine ab_bipush (v := 48) d_Teller_put_I_38 rfl ?_
        refine ab_iload_n (i := 1) d_Teller_put_I_40 rfl rfl ?_
        refine ab_bipush (v := 10) d_Teller_put_I_41 rfl ?_
        refine ab_irem d_Teller_put_I_43 (by decide) ?_
        refine ab_iadd d_Teller_put_I_44 ?_
        refine ab_callV (me2 := mt_Teller_putSign) (b := kx_teller) (as := [.int (48 + (v1 - v1 / 10 * 10))]) (st := []) (rv := none) (M2 := (I, L, ab_RR, n, nc, ns)) d_Teller_put_I_45 ce_Teller_putSign v_1230 v_1232 v_57 (by decide) rfl (Nat.le_of_ble_eq_true rfl) (cx_Teller_putSign_0 (48 + (v1 - v1 / 10 * 10)) hT c9) (Nat.le_refl _) (Nat.le_refl _) hc hs (fun j h9 => by cases h9) (fun _ _ => rfl) ?_
        show ab_E w (d + 1) mt_Teller_put_I 48 [.ref kx_teller, .int v1] [] (I, L, ab_RR, n, nc, ns) res
        exact ab_vret d_Teller_put_I_48 rfl h
      · have h := h.2 c9
        have g12 := h.1; have h := h.2
        refine ab_callV (me2 := mt_Teller_putSign) (b := kx_teller) (as := [.int (48 + ((v1 / 10) - (v1 / 10) / 10 * 10))]) (st := []) (rv := none) (M2 := ((ab_up (ab_up I kx_teller_text (I kx_teller 1).toNatClampNeg (vp_nar .byte (ab_i2b8 (48 + ((v1 / 10) - (v1 / 10) / 10 * 10))))) kx_teller 1 ((I kx_teller 1) + 1)), L, ab_RR, n, nc, ns)) d_Teller_put_I_34 ce_Teller_putSign v_1230 v_1232 v_57 (by decide) rfl (Nat.le_of_ble_eq_true rfl) (cx_Teller_putSign_1 (48 + ((v1 / 10) - (v1 / 10) / 10 * 10)) hT c9 g12) (Nat.le_refl _) (Nat.le_refl _) hc hs (fun j h9 => by cases h9) (fun _ _ => rfl) ?_
        show ab_E w (d + 1) mt_Teller_put_I 37 [.ref kx_teller, .int v1] [] ((ab_up (ab_up I kx_teller_text (I kx_teller 1).toNatClampNeg (vp_nar .byte (ab_i2b8 (48 + ((v1 / 10) - (v1 / 10) / 10 * 10))))) kx_teller 1 ((I kx_teller 1) + 1)), L, ab_RR, n, nc, ns) res
        refine ab_aload_n (i := 0) d_Teller_put_I_37 rfl rfl ?_
        refine ab_bipush (v := 48) d_Teller_put_I_38 rfl ?_
        refine ab_iload_n (i := 1) d_Teller_put_I_40 rfl rfl ?_
        refine ab_bipush (v := 10) d_Teller_put_I_41 rfl ?_
        refine ab_irem d_Teller_put_I_43 (by decide) ?_
        refine ab_iadd d_Teller_put_I_44 ?_
        by_cases c15 : 700 ≤ ((I kx_teller 1) + 1)
        · have h := h.1 c15
          refine ab_callV (me2 := mt_Teller_putSign) (b := kx_teller) (as := [.int (48 + (v1 - v1 / 10 * 10))]) (st := []) (rv := none) (M2 := ((ab_up (ab_up I kx_teller_text (I kx_teller 1).toNatClampNeg (vp_nar .byte (ab_i2b8 (48 + ((v1 / 10) - (v1 / 10) / 10 * 10))))) kx_teller 1 ((I kx_teller 1) + 1)), L, ab_RR, n, nc, ns)) d_Teller_put_I_45 ce_Teller_putSign v_1230 v_1232 v_57 (by decide) rfl (Nat.le_of_ble_eq_true rfl) (cx_Teller_putSign_0 (48 + (v1 - v1 / 10 * 10)) hT c15) (Nat.le_refl _) (Nat.le_refl _) hc hs (fun j h9 => by cases h9) (fun _ _ => rfl) ?_
          show ab_E w (d + 1) mt_Teller_put_I 48 [.ref kx_teller, .int v1] [] ((ab_up (ab_up I kx_teller_text (I kx_teller 1).toNatClampNeg (vp_nar .byte (ab_i2b8 (48 + ((v1 / 10) - (v1 / 10) / 10 * 10))))) kx_teller 1 ((I kx_teller 1) + 1)), L, ab_RR, n, nc, ns) res
          exact ab_vret d_Teller_put_I_48 rfl h
        · have h := h.2 c15
          have g16 := h.1; have h := h.2
          refine ab_callV (me2 := mt_Teller_putSign) (b := kx_teller) (as := [.int (48 + (v1 - v1 / 10 * 10))]) (st := []) (rv := none) (M2 := ((ab_up (ab_up (ab_up (ab_up I kx_teller_text (I kx_teller 1).toNatClampNeg (vp_nar .byte (ab_i2b8 (48 + ((v1 / 10) - (v1 / 10) / 10 * 10))))) kx_teller 1 ((I kx_teller 1) + 1)) kx_teller_text ((I kx_teller 1) + 1).toNatClampNeg (vp_nar .byte (ab_i2b8 (48 + (v1 - v1 / 10 * 10))))) kx_teller 1 (((I kx_teller 1) + 1) + 1)), L, ab_RR, n, nc, ns)) d_Teller_put_I_45 ce_Teller_putSign v_1230 v_1232 v_57 (by decide) rfl (Nat.le_of_ble_eq_true rfl) (cx_Teller_putSign_1 (48 + (v1 - v1 / 10 * 10)) hT c15 g16) (Nat.le_refl _) (Nat.le_refl _) hc hs (fun j h9 => by cases h9) (fun _ _ => rfl) ?_
          show ab_E w (d + 1) mt_Teller_put_I 48 [.ref kx_teller, .int v1] [] ((ab_up (ab_up (ab_up (ab_up I kx_teller_text (I kx_teller 1).toNatClampNeg (vp_nar .byte (ab_i2b8 (48 + ((v1 / 10) - (v1 / 10) / 10 * 10))))) kx_teller 1 ((I kx_teller 1) + 1)) kx_teller_text ((I kx_teller 1) + 1).toNatClampNeg (vp_nar .byte (ab_i2b8 (48 + (v1 - v1 / 10 * 10))))) kx_teller 1 (((I kx_teller 1) + 1) + 1)), L, ab_RR, n, nc, ns) res
          exact ab_vret d_Teller_put_I_48 rfl h
  · have h := h.2 c1
    refine ab_aload_n (i := 0) d_Teller_put_I_6 rfl rfl ?_
    refine ab_bipush (v := 48) d_Teller_put_I_7 rfl ?_
    refine ab_iload_n (i := 1) d_Teller_put_I_9 rfl rfl ?_
    refine ab_bipush (v := 100) d_Teller_put_I_10 rfl ?_
    refine ab_idiv d_Teller_put_I_12 (by decide) ?_
    refine ab_iadd d_Teller_put_I_13 ?_
    by_cases c19 : 700 ≤ (I kx_teller 1)
    · have h := h.1 c19
      refine ab_callV (me2 := mt_Teller_putSign) (b := kx_teller) (as := [.int (48 + (v1 / 100))]) (st := []) (rv := none) (M2 := (I, L, ab_RR, n, nc, ns)) d_Teller_put_I_14 ce_Teller_putSign v_1230 v_1232 v_57 (by decide) rfl (Nat.le_of_ble_eq_true rfl) (cx_Teller_putSign_0 (48 + (v1 / 100)) hT c19) (Nat.le_refl _) (Nat.le_refl _) hc hs (fun j h9 => by cases h9) (fun _ _ => rfl) ?_
      show ab_E w (d + 1) mt_Teller_put_I 17 [.ref kx_teller, .int v1] [] (I, L, ab_RR, n, nc, ns) res
      refine ab_iload_n (i := 1) d_Teller_put_I_17 rfl rfl ?_
      refine ab_bipush (v := 9) d_Teller_put_I_18 rfl ?_
      refine ab_icmp_le (tgt := 37) d_Teller_put_I_20 (by decide) (fun c20 => ?_) (fun c20 => ?_)
      · have h := h.1 c20
        refine ab_aload_n (i := 0) d_Teller_put_I_37 rfl rfl ?_
        refine ab_bipush (v := 48) d_Teller_put_I_38 rfl ?_
        refine ab_iload_n (i := 1) d_Teller_put_I_40 rfl rfl ?_
        refine ab_bipush (v := 10) d_Teller_put_I_41 rfl ?_
        refine ab_irem d_Teller_put_I_43 (by decide) ?_
        refine ab_iadd d_Teller_put_I_44 ?_
        refine ab_callV (me2 := mt_Teller_putSign) (b := kx_teller) (as := [.int (48 + (v1 - v1 / 10 * 10))]) (st := []) (rv := none) (M2 := (I, L, ab_RR, n, nc, ns)) d_Teller_put_I_45 ce_Teller_putSign v_1230 v_1232 v_57 (by decide) rfl (Nat.le_of_ble_eq_true rfl) (cx_Teller_putSign_0 (48 + (v1 - v1 / 10 * 10)) hT c19) (Nat.le_refl _) (Nat.le_refl _) hc hs (fun j h9 => by cases h9) (fun _ _ => rfl) ?_
        show ab_E w (d + 1) mt_Teller_put_I 48 [.ref kx_teller, .int v1] [] (I, L, ab_RR, n, nc, ns) res
        exact ab_vret d_Teller_put_I_48 rfl h
      · have h := h.2 c20
        refine ab_aload_n (i := 0) d_Teller_put_I_23 rfl rfl ?_
        refine ab_bipush (v := 48) d_Teller_put_I_24 rfl ?_
        refine ab_iload_n (i := 1) d_Teller_put_I_26 rfl rfl ?_
        refine ab_bipush (v := 10) d_Teller_put_I_27 rfl ?_
        refine ab_idiv d_Teller_put_I_29 (by decide) ?_
        refine ab_bipush (v := 10) d_Teller_put_I_30 rfl ?_
        refine ab_irem d_Teller_put_I_32 (by decide) ?_
        refine ab_iadd d_Teller_put_I_33 ?_
        refine ab_callV (me2 := mt_Teller_putSign) (b := kx_teller) (as := [.int (48 + ((v1 / 10) - (v1 / 10) / 10 * 10))]) (st := []) (rv := none) (M2 := (I, L, ab_RR, n, nc, ns)) d_Teller_put_I_34 ce_Teller_putSign v_1230 v_1232 v_57 (by decide) rfl (Nat.le_of_ble_eq_true rfl) (cx_Teller_putSign_0 (48 + ((v1 / 10) - (v1 / 10) / 10 * 10)) hT c19) (Nat.le_refl _) (Nat.le_refl _) hc hs (fun j h9 => by cases h9) (fun _ _ => rfl) ?_
        show ab_E w (d + 1) mt_Teller_put_I 37 [.ref kx_teller, .int v1] [] (I, L, ab_RR, n, nc, ns) res
        refine ab_aload_n (i := 0) d_Teller_put_I_37 rfl rfl ?_
        refine ab_bipush (v := 48) d_Teller_put_I_38 rfl ?_
        refine ab_iload_n (i := 1) d_Teller_put_I_40 rfl rfl ?_
        refine ab_bipush (v := 10) d_Teller_put_I_41 rfl ?_
        refine ab_irem d_Teller_put_I_43 (by decide) ?_
        refine ab_iadd d_Teller_put_I_44 ?_
        refine ab_callV (me2 := mt_Teller_putSign) (b := kx_teller) (as := [.int (48 + (v1 - v1 / 10 * 10))]) (st := []) (rv := none) (M2 := (I, L, ab_RR, n, nc, ns)) d_Teller_put_I_45 ce_Teller_putSign v_1230 v_1232 v_57 (by decide) rfl (Nat.le_of_ble_eq_true rfl) (cx_Teller_putSign_0 (48 + (v1 - v1 / 10 * 10)) hT c19) (Nat.le_refl _) (Nat.le_refl _) hc hs (fun j h9 => by cases h9) (fun _ _ => rfl) ?_
        show ab_E w (d + 1) mt_Teller_put_I 48 [.ref kx_teller, .int v1] [] (I, L, ab_RR, n, nc, ns) res
        exact ab_vret d_Teller_put_I_48 rfl h
    · have h := h.2 c19
      have g27 := h.1; have h := h.2
      refine ab_callV (me2 := mt_Teller_putSign) (b := kx_teller) (as := [.int (48 + (v1 / 100))]) (st := []) (rv := none) (M2 := ((ab_up (ab_up I kx_teller_text (I kx_teller 1).toNatClampNeg (vp_nar .byte (ab_i2b8 (48 + (v1 / 100))))) kx_teller 1 ((I kx_teller 1) + 1)), L, ab_RR, n, nc, ns)) d_Teller_put_I_14 ce_Teller_putSign v_1230 v_1232 v_57 (by decide) rfl (Nat.le_of_ble_eq_true rfl) (cx_Teller_putSign_1 (48 + (v1 / 100)) hT c19 g27) (Nat.le_refl _) (Nat.le_refl _) hc hs (fun j h9 => by cases h9) (fun _ _ => rfl) ?_
      show ab_E w (d + 1) mt_Teller_put_I 17 [.ref kx_teller, .int v1] [] ((ab_up (ab_up I kx_teller_text (I kx_teller 1).toNatClampNeg (vp_nar .byte (ab_i2b8 (48 + (v1 / 100))))) kx_teller 1 ((I kx_teller 1) + 1)), L, ab_RR, n, nc, ns) res
      refine ab_iload_n (i := 1) d_Teller_put_I_17 rfl rfl ?_
      refine ab_bipush (v := 9) d_Teller_put_I_18 rfl ?_
      refine ab_icmp_le (tgt := 37) d_Teller_put_I_20 (by decide) (fun c28 => ?_) (fun c28 => ?_)
      · have h := h.1 c28
        refine ab_aload_n (i := 0) d_Teller_put_I_37 rfl rfl ?_
        refine ab_bipush (v := 48) d_Teller_put_I_38 rfl ?_
        refine ab_iload_n (i := 1) d_Teller_put_I_40 rfl rfl ?_
        refine ab_bipush (v := 10) d_Teller_put_I_41 rfl ?_
        refine ab_irem d_Teller_put_I_43 (by decide) ?_
        refine ab_iadd d_Teller_put_I_44 ?_
        by_cases c31 : 700 ≤ ((I kx_teller 1) + 1)
        · have h := h.1 c31
          refine ab_callV (me2 := mt_Teller_putSign) (b := kx_teller) (as := [.int (48 + (v1 - v1 / 10 * 10))]) (st := []) (rv := none) (M2 := ((ab_up (ab_up I kx_teller_text (I kx_teller 1).toNatClampNeg (vp_nar .byte (ab_i2b8 (48 + (v1 / 100))))) kx_teller 1 ((I kx_teller 1) + 1)), L, ab_RR, n, nc, ns)) d_Teller_put_I_45 ce_Teller_putSign v_1230 v_1232 v_57 (by decide) rfl (Nat.le_of_ble_eq_true rfl) (cx_Teller_putSign_0 (48 + (v1 - v1 / 10 * 10)) hT c31) (Nat.le_refl _) (Nat.le_refl _) hc hs (fun j h9 => by cases h9) (fun _ _ => rfl) ?_
          show ab_E w (d + 1) mt_Teller_put_I 48 [.ref kx_teller, .int v1] [] ((ab_up (ab_up I kx_teller_text (I kx_teller 1).toNatClampNeg (vp_nar .byte (ab_i2b8 (48 + (v1 / 100))))) kx_teller 1 ((I kx_teller 1) + 1)), L, ab_RR, n, nc, ns) res
          exact ab_vret d_Teller_put_I_48 rfl h
        · have h := h.2 c31
          have g32 := h.1; have h := h.2
          refine ab_callV (me2 := mt_Teller_putSign) (b := kx_teller) (as := [.int (48 + (v1 - v1 / 10 * 10))]) (st := []) (rv := none) (M2 := ((ab_up (ab_up (ab_up (ab_up I kx_teller_text (I kx_teller 1).toNatClampNeg (vp_nar .byte (ab_i2b8 (48 + (v1 / 100))))) kx_teller 1 ((I kx_teller 1) + 1)) kx_teller_text ((I kx_teller 1) + 1).toNatClampNeg (vp_nar .byte (ab_i2b8 (48 + (v1 - v1 / 10 * 10))))) kx_teller 1 (((I kx_teller 1) + 1) + 1)), L, ab_RR, n, nc, ns)) d_Teller_put_I_45 ce_Teller_putSign v_1230 v_1232 v_57 (by decide) rfl (Nat.le_of_ble_eq_true rfl) (cx_Teller_putSign_1 (48 + (v1 - v1 / 10 * 10)) hT c31 g32) (Nat.le_refl _) (Nat.le_refl _) hc hs (fun j h9 => by cases h9) (fun _ _ => rfl) ?_
          show ab_E w (d + 1) mt_Teller_put_I 48 [.ref kx_teller, .int v1] [] ((ab_up (ab_up (ab_up (ab_up I kx_teller_text (I kx_teller 1).toNatClampNeg (vp_nar .byte (ab_i2b8 (48 + (v1 / 100))))) kx_teller 1 ((I kx_teller 1) + 1)) kx_teller_text ((I kx_teller 1) + 1).toNatClampNeg (vp_nar .byte (ab_i2b8 (48 + (v1 - v1 / 10 * 10))))) kx_teller 1 (((I kx_teller 1) + 1) + 1)), L, ab_RR, n, nc, ns) res
          exact ab_vret d_Teller_put_I_48 rfl h
      · have h := h.2 c28
        refine ab_aload_n (i := 0) d_Teller_put_I_23 rfl rfl ?_
        refine ab_bipush (v := 48) d_Teller_put_I_24 rfl ?_
        refine ab_iload_n (i := 1) d_Teller_put_I_26 rfl rfl ?_
        refine ab_bipush (v := 10) d_Teller_put_I_27 rfl ?_
        refine ab_idiv d_Teller_put_I_29 (by decide) ?_
        refine ab_bipush (v := 10) d_Teller_put_I_30 rfl ?_
        refine ab_irem d_Teller_put_I_32 (by decide) ?_
        refine ab_iadd d_Teller_put_I_33 ?_
        by_cases c35 : 700 ≤ ((I kx_teller 1) + 1)
        · have h := h.1 c35
          refine ab_callV (me2 := mt_Teller_putSign) (b := kx_teller) (as := [.int (48 + ((v1 / 10) - (v1 / 10) / 10 * 10))]) (st := []) (rv := none) (M2 := ((ab_up (ab_up I kx_teller_text (I kx_teller 1).toNatClampNeg (vp_nar .byte (ab_i2b8 (48 + (v1 / 100))))) kx_teller 1 ((I kx_teller 1) + 1)), L, ab_RR, n, nc, ns)) d_Teller_put_I_34 ce_Teller_putSign v_1230 v_1232 v_57 (by decide) rfl (Nat.le_of_ble_eq_true rfl) (cx_Teller_putSign_0 (48 + ((v1 / 10) - (v1 / 10) / 10 * 10)) hT c35) (Nat.le_refl _) (Nat.le_refl _) hc hs (fun j h9 => by cases h9) (fun _ _ => rfl) ?_
          show ab_E w (d + 1) mt_Teller_put_I 37 [.ref kx_teller, .int v1] [] ((ab_up (ab_up I kx_teller_text (I kx_teller 1).toNatClampNeg (vp_nar .byte (ab_i2b8 (48 + (v1 / 100))))) kx_teller 1 ((I kx_teller 1) + 1)), L, ab_RR, n, nc, ns) res
          refine ab_aload_n (i := 0) d_Teller_put_I_37 rfl rfl ?_
          refine ab_bipush (v := 48) d_Teller_put_I_38 rfl ?_
          refine ab_iload_n (i := 1) d_Teller_put_I_40 rfl rfl ?_
          refine ab_bipush (v := 10) d_Teller_put_I_41 rfl ?_
          refine ab_irem d_Teller_put_I_43 (by decide) ?_
          refine ab_iadd d_Teller_put_I_44 ?_
          refine ab_callV (me2 := mt_Teller_putSign) (b := kx_teller) (as := [.int (48 + (v1 - v1 / 10 * 10))]) (st := []) (rv := none) (M2 := ((ab_up (ab_up I kx_teller_text (I kx_teller 1).toNatClampNeg (vp_nar .byte (ab_i2b8 (48 + (v1 / 100))))) kx_teller 1 ((I kx_teller 1) + 1)), L, ab_RR, n, nc, ns)) d_Teller_put_I_45 ce_Teller_putSign v_1230 v_1232 v_57 (by decide) rfl (Nat.le_of_ble_eq_true rfl) (cx_Teller_putSign_0 (48 + (v1 - v1 / 10 * 10)) hT c35) (Nat.le_refl _) (Nat.le_refl _) hc hs (fun j h9 => by cases h9) (fun _ _ => rfl) ?_
          show ab_E w (d + 1) mt_Teller_put_I 48 [.ref kx_teller, .int v1] [] ((ab_up (ab_up I kx_teller_text (I kx_teller 1).toNatClampNeg (vp_nar .byte (ab_i2b8 (48 + (v1 / 100))))) kx_teller 1 ((I kx_teller 1) + 1)), L, ab_RR, n, nc, ns) res
          exact ab_vret d_Teller_put_I_48 rfl h
        · have h := h.2 c35
          have g38 := h.1; have h := h.2
          refine ab_callV (me2 := mt_Teller_putSign) (b := kx_teller) (as := [.int (48 + ((v1 / 10) - (v1 / 10) / 10 * 10))]) (st := []) (rv := none) (M2 := ((ab_up (ab_up (ab_up (ab_up I kx_teller_text (I kx_teller 1).toNatClampNeg (vp_nar .byte (ab_i2b8 (48 + (v1 / 100))))) kx_teller 1 ((I kx_teller 1) + 1)) kx_teller_text ((I kx_teller 1) + 1).toNatClampNeg (vp_nar .byte (ab_i2b8 (48 + ((v1 / 10) - (v1 / 10) / 10 * 10))))) kx_teller 1 (((I kx_teller 1) + 1) + 1)), L, ab_RR, n, nc, ns)) d_Teller_put_I_34 ce_Teller_putSign v_1230 v_1232 v_57 (by decide) rfl (Nat.le_of_ble_eq_true rfl) (cx_Teller_putSign_1 (48 + ((v1 / 10) - (v1 / 10) / 10 * 10)) hT c35 g38) (Nat.le_refl _) (Nat.le_refl _) hc hs (fun j h9 => by cases h9) (fun _ _ => rfl) ?_
          show ab_E w (d + 1) mt_Teller_put_I 37 [.ref kx_teller, .int v1] [] ((ab_up (ab_up (ab_up (ab_up I kx_teller_text (I kx_teller 1).toNatClampNeg (vp_nar .byte (ab_i2b8 (48 + (v1 / 100))))) kx_teller 1 ((I kx_teller 1) + 1)) kx_teller_text ((I kx_teller 1) + 1).toNatClampNeg (vp_nar .byte (ab_i2b8 (48 + ((v1 / 10) - (v1 / 10) / 10 * 10))))) kx_teller 1 (((I kx_teller 1) + 1) + 1)), L, ab_RR, n, nc, ns) res
          refine ab_aload_n (i := 0) d_Teller_put_I_37 rfl rfl ?_
          refine ab_bipush (v := 48) d_Teller_put_I_38 rfl ?_
          refine ab_iload_n (i := 1) d_Teller_put_I_40 rfl rfl ?_
          refine ab_bipush (v := 10) d_Teller_put_I_41 rfl ?_
          refine ab_irem d_Teller_put_I_43 (by decide) ?_
          refine ab_iadd d_Teller_put_I_44 ?_
          by_cases c41 : 700 ≤ (((I kx_teller 1) + 1) + 1)
          · have h := h.1 c41
            refine ab_callV (me2 := mt_Teller_putSign) (b := kx_teller) (as := [.int (48 + (v1 - v1 / 10 * 10))]) (st := []) (rv := none) (M2 := ((ab_up (ab_up (ab_up (ab_up I kx_teller_text (I kx_teller 1).toNatClampNeg (vp_nar .byte (ab_i2b8 (48 + (v1 / 100))))) kx_teller 1 ((I kx_teller 1) + 1)) kx_teller_text ((I kx_teller 1) + 1).toNatClampNeg (vp_nar .byte (ab_i2b8 (48 + ((v1 / 10) - (v1 / 10) / 10 * 10))))) kx_teller 1 (((I kx_teller 1) + 1) + 1)), L, ab_RR, n, nc, ns)) d_Teller_put_I_45 ce_Teller_putSign v_1230 v_1232 v_57 (by decide) rfl (Nat.le_of_ble_eq_true rfl) (cx_Teller_putSign_0 (48 + (v1 - v1 / 10 * 10)) hT c41) (Nat.le_refl _) (Nat.le_refl _) hc hs (fun j h9 => by cases h9) (fun _ _ => rfl) ?_
            show ab_E w (d + 1) mt_Teller_put_I 48 [.ref kx_teller, .int v1] [] ((ab_up (ab_up (ab_up (ab_up I kx_teller_text (I kx_teller 1).toNatClampNeg (vp_nar .byte (ab_i2b8 (48 + (v1 / 100))))) kx_teller 1 ((I kx_teller 1) + 1)) kx_teller_text ((I kx_teller 1) + 1).toNatClampNeg (vp_nar .byte (ab_i2b8 (48 + ((v1 / 10) - (v1 / 10) / 10 * 10))))) kx_teller 1 (((I kx_teller 1) + 1) + 1)), L, ab_RR, n, nc, ns) res
            exact ab_vret d_Teller_put_I_48 rfl h
          · have h := h.2 c41
            have g42 := h.1; have h := h.2
            refine ab_callV (me2 := mt_Teller_putSign) (b := kx_teller) (as := [.int (48 + (v1 - v1 / 10 * 10))]) (st := []) (rv := none) (M2 := ((ab_up (ab_up (ab_up (ab_up (ab_up (ab_up I kx_teller_text (I kx_teller 1).toNatClampNeg (vp_nar .byte (ab_i2b8 (48 + (v1 / 100))))) kx_teller 1 ((I kx_teller 1) + 1)) kx_teller_text ((I kx_teller 1) + 1).toNatClampNeg (vp_nar .byte (ab_i2b8 (48 + ((v1 / 10) - (v1 / 10) / 10 * 10))))) kx_teller 1 (((I kx_teller 1) + 1) + 1)) kx_teller_text (((I kx_teller 1) + 1) + 1).toNatClampNeg (vp_nar .byte (ab_i2b8 (48 + (v1 - v1 / 10 * 10))))) kx_teller 1 ((((I kx_teller 1) + 1) + 1) + 1)), L, ab_RR, n, nc, ns)) d_Teller_put_I_45 ce_Teller_putSign v_1230 v_1232 v_57 (by decide) rfl (Nat.le_of_ble_eq_true rfl) (cx_Teller_putSign_1 (48 + (v1 - v1 / 10 * 10)) hT c41 g42) (Nat.le_refl _) (Nat.le_refl _) hc hs (fun j h9 => by cases h9) (fun _ _ => rfl) ?_
            show ab_E w (d + 1) mt_Teller_put_I 48 [.ref kx_teller, .int v1] [] ((ab_up (ab_up (ab_up (ab_up (ab_up (ab_up I kx_teller_text (I kx_teller 1).toNatClampNeg (vp_nar .byte (ab_i2b8 (48 + (v1 / 100))))) kx_teller 1 ((I kx_teller 1) + 1)) kx_teller_text ((I kx_teller 1) + 1).toNatClampNeg (vp_nar .byte (ab_i2b8 (48 + ((v1 / 10) - (v1 / 10) / 10 * 10))))) kx_teller 1 (((I kx_teller 1) + 1) + 1)) kx_teller_text (((I kx_teller 1) + 1) + 1).toNatClampNeg (vp_nar .byte (ab_i2b8 (48 + (v1 - v1 / 10 * 10))))) kx_teller 1 ((((I kx_teller 1) + 1) + 1) + 1)), L, ab_RR, n, nc, ns) res
            exact ab_vret d_Teller_put_I_48 rfl h
theorem r_Teller_put_S_0 {w : ab_Wd} {d n nc ns : Nat} {I : Nat → Nat → Int32} {L : Nat → Nat → Int64} {res : ab_Re} (hT : w.1.stackTraces = false) {j : Nat} (hj : j < 8) (hc : nc ≤ res.2.2.2.2.2.1) (hs : ns ≤ res.2.2.2.2.2.2)
    (h : ab_E w (d + 1) mt_Teller_put_S 2 [.ref kx_teller, .ref (64 * j + 32), .int 0] [] (I, L, ab_RR, n, nc, ns) res) : ab_E w (d + 1) mt_Teller_put_S 0 [.ref kx_teller, .ref (64 * j + 32), .null] [] (I, L, ab_RR, n, nc, ns) res := by
  refine ab_iconst (v := 0) d_Teller_put_S_0 rfl ?_
  refine ab_istore_n (i := 2) d_Teller_put_S_1 rfl (by decide) (Or.inr rfl) ?_
  exact h
theorem r_Teller_put_S_2 {w : ab_Wd} {d n nc ns : Nat} {I : Nat → Nat → Int32} {L : Nat → Nat → Int64} {res : ab_Re} (hT : w.1.stackTraces = false) {j : Nat} (hj : j < 8) (v2 : Int32) (hc : nc ≤ res.2.2.2.2.2.1) (hs : ns ≤ res.2.2.2.2.2.2)
    (h : ∃ (r1 : Int32), ab_C w d mt_Str_length [.ref (64 * j + 32)] (I, L, ab_RR, n, nc, ns) (.inl (some (.int r1)), (I, L, ab_RR, n, nc, ns)) ∧ ((r1 ≤ v2 → (res = (.inl none, (I, L, ab_RR, n, nc, ns)))) ∧ (¬ r1 ≤ v2 → (∃ (r3 : Int32), ab_C w d mt_Str_charAt [.ref (64 * j + 32), .int v2] (I, L, ab_RR, n, nc, ns) (.inl (some (.int r3)), (I, L, ab_RR, n, nc, ns)) ∧ ((700 ≤ (I kx_teller 1) → (ab_E w (d + 1) mt_Teller_put_S 2 [.ref kx_teller, .ref (64 * j + 32), .int (v2 + 1)] [] (I, L, ab_RR, n, nc, ns) res)) ∧ (¬ 700 ≤ (I kx_teller 1) → ((vp_in (I kx_teller 1) 700) ∧ ab_E w (d + 1) mt_Teller_put_S 2 [.ref kx_teller, .ref (64 * j + 32), .int (v2 + 1)] [] ((ab_up (ab_up I kx_teller_text (I kx_teller 1).toNatClampNeg (vp_nar .byte (ab_i2b8 r3))) kx_teller 1 ((I kx_teller 1) + 1)), L, ab_RR, n, nc, ns) res))))))) : ab_E w (d + 1) mt_Teller_put_S 2 [.ref kx_teller, .ref (64 * j + 32), .int v2] [] (I, L, ab_RR, n, nc, ns) res := by
  refine ab_iload_n (i := 2) d_Teller_put_S_2 rfl rfl ?_
  refine ab_aload_n (i := 1) d_Teller_put_S_3 rfl rfl ?_
  obtain ⟨r1, hC, h⟩ := h
  refine ab_callT (me2 := mt_Str_length) (j := j) (as := []) (st := [.int v2]) (rv := (some (.int r1))) (M2 := (I, L, ab_RR, n, nc, ns)) d_Teller_put_S_4 hj ce_Str_length v_1228 v_834 v_835 rfl (Nat.le_of_ble_eq_true rfl) hC (Nat.le_refl _) (Nat.le_refl _) hc hs (fun j h9 => by cases h9) (fun _ _ => rfl) ?_
  show ab_E w (d + 1) mt_Teller_put_S 7 [.ref kx_teller, .ref (64 * j + 32), .int v2] [.int r1, .int v2] (I, L, ab_RR, n, nc, ns) res
  refine ab_icmp_ge (tgt := 25) d_Teller_put_S_7 (by decide) (fun c2 => ?_) (fun c2 => ?_)
  · have h := h.1 c2
    exact ab_vret d_Teller_put_S_25 rfl h
  · have h := h.2 c2
    refine ab_aload_n (i := 0) d_Teller_put_S_10 rfl rfl ?_
    refine ab_aload_n (i := 1) d_Teller_put_S_11 rfl rfl ?_
    refine ab_iload_n (i := 2) d_Teller_put_S_12 rfl rfl ?_
    obtain ⟨r3, hC, h⟩ := h
    refine ab_callT (me2 := mt_Str_charAt) (j := j) (as := [.int v2]) (st := [.ref kx_teller]) (rv := (some (.int r3))) (M2 := (I, L, ab_RR, n, nc, ns)) d_Teller_put_S_13 hj ce_Str_charAt v_1229 v_844 v_845 rfl (Nat.le_of_ble_eq_true rfl) hC (Nat.le_refl _) (Nat.le_refl _) hc hs (fun j h9 => by cases h9) (fun _ _ => rfl) ?_
    show ab_E w (d + 1) mt_Teller_put_S 16 [.ref kx_teller, .ref (64 * j + 32), .int v2] [.int r3, .ref kx_teller] (I, L, ab_RR, n, nc, ns) res
    by_cases c6 : 700 ≤ (I kx_teller 1)
    · have h := h.1 c6
      refine ab_callV (me2 := mt_Teller_putSign) (b := kx_teller) (as := [.int r3]) (st := []) (rv := none) (M2 := (I, L, ab_RR, n, nc, ns)) d_Teller_put_S_16 ce_Teller_putSign v_1230 v_1232 v_57 (by decide) rfl (Nat.le_of_ble_eq_true rfl) (cx_Teller_putSign_0 r3 hT c6) (Nat.le_refl _) (Nat.le_refl _) hc hs (fun j h9 => by cases h9) (fun _ _ => rfl) ?_
      show ab_E w (d + 1) mt_Teller_put_S 19 [.ref kx_teller, .ref (64 * j + 32), .int v2] [] (I, L, ab_RR, n, nc, ns) res
      refine ab_iinc (i := 2) (v := (v2 + 1)) d_Teller_put_S_19 rfl rfl (by decide) (Or.inr rfl) ?_
      refine ab_goto (tgt := 2) d_Teller_put_S_22 (by decide) ?_
      exact h
    · have h := h.2 c6
      have g7 := h.1; have h := h.2
      refine ab_callV (me2 := mt_Teller_putSign) (b := kx_teller) (as := [.int r3]) (st := []) (rv := none) (M2 := ((ab_up (ab_up I kx_teller_text (I kx_teller 1).toNatClampNeg (vp_nar .byte (ab_i2b8 r3))) kx_teller 1 ((I kx_teller 1) + 1)), L, ab_RR, n, nc, ns)) d_Teller_put_S_16 ce_Teller_putSign v_1230 v_1232 v_57 (by decide) rfl (Nat.le_of_ble_eq_true rfl) (cx_Teller_putSign_1 r3 hT c6 g7) (Nat.le_refl _) (Nat.le_refl _) hc hs (fun j h9 => by cases h9) (fun _ _ => rfl) ?_
      show ab_E w (d + 1) mt_Teller_put_S 19 [.ref kx_teller, .ref (64 * j + 32), .int v2] [] ((ab_up (ab_up I kx_teller_text (I kx_teller 1).toNatClampNeg (vp_nar .byte (ab_i2b8 r3))) kx_teller 1 ((I kx_teller 1) + 1)), L, ab_RR, n, nc, ns) res
      refine ab_iinc (i := 2) (v := (v2 + 1)) d_Teller_put_S_19 rfl rfl (by decide) (Or.inr rfl) ?_
      refine ab_goto (tgt := 2) d_Teller_put_S_22 (by decide) ?_
      exact h
theorem r_Roads_spread_0 {w : ab_Wd} {d n nc ns : Nat} {I : Nat → Nat → Int32} {L : Nat → Nat → Int64} {res : ab_Re} (hT : w.1.stackTraces = false) (v1 : Int32) (hc : nc ≤ res.2.2.2.2.2.1) (hs : ns ≤ res.2.2.2.2.2.2)
    (h : ab_E w (d + 1) mt_Roads_spread 2 [.ref kx_roads, .int v1, .int 0, .null, .null, .null, .null] [] (I, L, ab_RR, n, nc, ns) res) : ab_E w (d + 1) mt_Roads_spread 0 [.ref kx_roads, .int v1, .null, .null, .null, .null, .null] [] (I, L, ab_RR, n, nc, ns) res := by
  refine ab_iconst (v := 0) d_Roads_spread_0 rfl ?_
  refine ab_istore_n (i := 2) d_Roads_spread_1 rfl (by decide) (Or.inr rfl) ?_
  exact h
theorem r_Roads_spread_2 {w : ab_Wd} {d n nc ns : Nat} {I : Nat → Nat → Int32} {L : Nat → Nat → Int64} {res : ab_Re} (hT : w.1.stackTraces = false) (v1 : Int32) (v2 : Int32) (hc : nc ≤ res.2.2.2.2.2.1) (hs : ns ≤ res.2.2.2.2.2.2)
    (h : (((I kx_roads 0) ≤ v2 → (∃ (r2 : Int32), ab_C w d mt_Roads_nearest [.ref kx_roads, .int v1] (I, L, ab_RR, n, nc, ns) (.inl (some (.int r2)), (I, L, ab_RR, n, nc, ns)) ∧ ab_E w (d + 1) mt_Roads_spread 38 [.ref kx_roads, .int v1, .int v1, .int 0, .int r2, .int 0, .null] [] (I, L, ab_RR, n, nc, ns) res)) ∧ (¬ (I kx_roads 0) ≤ v2 → ((vp_in v2 10) ∧ ab_E w (d + 1) mt_Roads_spread 2 [.ref kx_roads, .int v1, .int (v2 + 1), .null, .null, .null, .null] [] ((ab_up I kx_roads_near v2.toNatClampNeg 1000000), L, ab_RR, n, nc, ns) res)))) : ab_E w (d + 1) mt_Roads_spread 2 [.ref kx_roads, .int v1, .int v2, .null, .null, .null, .null] [] (I, L, ab_RR, n, nc, ns) res := by
  refine ab_iload_n (i := 2) d_Roads_spread_2 rfl rfl ?_
  refine ab_aload_n (i := 0) d_Roads_spread_3 rfl rfl ?_
  refine ab_getI (ci := 5) (k := 0) d_Roads_spread_4 v_385 rfl (by decide) (by decide) rfl ?_
  refine ab_icmp_ge (tgt := 24) d_Roads_spread_7 (by decide) (fun c1 => ?_) (fun c1 => ?_)
  · have h := h.1 c1
    refine ab_iload_n (i := 1) d_Roads_spread_24 rfl rfl ?_
    refine ab_istore_n (i := 2) d_Roads_spread_25 rfl (by decide) (Or.inr rfl) ?_
    refine ab_iconst (v := 0) d_Roads_spread_26 rfl ?_
    refine ab_istore_n (i := 3) d_Roads_spread_27 rfl (by decide) (Or.inr rfl) ?_
    refine ab_aload_n (i := 0) d_Roads_spread_28 rfl rfl ?_
    refine ab_iload_n (i := 2) d_Roads_spread_29 rfl rfl ?_
    obtain ⟨r2, hC, h⟩ := h
    refine ab_callV (me2 := mt_Roads_nearest) (b := kx_roads) (as := [.int v1]) (st := []) (rv := (some (.int r2))) (M2 := (I, L, ab_RR, n, nc, ns)) d_Roads_spread_30 ce_Roads_nearest v_1259 v_1261 v_60 (by decide) rfl (Nat.le_of_ble_eq_true rfl) hC (Nat.le_refl _) (Nat.le_refl _) hc hs (fun j h9 => by cases h9) (fun _ _ => rfl) ?_
    show ab_E w (d + 1) mt_Roads_spread 33 [.ref kx_roads, .int v1, .int v1, .int 0, .null, .null, .null] [.int r2] (I, L, ab_RR, n, nc, ns) res
    refine ab_istore (i := 4) d_Roads_spread_33 (by decide) (Or.inr rfl) ?_
    refine ab_iconst (v := 0) d_Roads_spread_35 rfl ?_
    refine ab_istore (i := 5) d_Roads_spread_36 (by decide) (Or.inr rfl) ?_
    exact h
  · have h := h.2 c1
    refine ab_aload_n (i := 0) d_Roads_spread_10 rfl rfl ?_
    refine ab_getR (ci := 5) (k := 2) (j := kx_roads_near) d_Roads_spread_11 v_387 rfl (by decide) (by decide) rfl r_kx_roads_2 ?_
    refine ab_iload_n (i := 2) d_Roads_spread_14 rfl rfl ?_
    refine ab_ldc (v := 1000000) d_Roads_spread_15 v_1033 ?_
    have g3 := h.1; have h := h.2
    refine ab_iast d_Roads_spread_17 rfl rfl g3 ?_
    refine ab_iinc (i := 2) (v := (v2 + 1)) d_Roads_spread_18 rfl rfl (by decide) (Or.inr rfl) ?_
    refine ab_goto (tgt := 2) d_Roads_spread_21 (by decide) ?_
    exact h
theorem r_Roads_spread_38 {w : ab_Wd} {d n nc ns : Nat} {I : Nat → Nat → Int32} {L : Nat → Nat → Int64} {res : ab_Re} (hT : w.1.stackTraces = false) (v1 : Int32) (v2 : Int32) (v3 : Int32) (v4 : Int32) (v5 : Int32) (hc : nc ≤ res.2.2.2.2.2.1) (hs : ns ≤ res.2.2.2.2.2.2)
    (h : ((10 ≤ v5 → (res = (.inl (some (.int v3)), (I, L, ab_RR, n, nc, ns)))) ∧ (¬ 10 ≤ v5 → ((v4 = (-1) → (res = (.inl (some (.int v3)), (I, L, ab_RR, n, nc, ns)))) ∧ (¬ v4 = (-1) → (ab_E w (d + 1) mt_Roads_spread 63 [.ref kx_roads, .int v1, .int (v2 &&& (((1 : Int32) <<< (v4 &&& 31)) ^^^ (-1))), .int v3, .int v4, .int v5, .int 0] [] (I, L, ab_RR, n, nc, ns) res)))))) : ab_E w (d + 1) mt_Roads_spread 38 [.ref kx_roads, .int v1, .int v2, .int v3, .int v4, .int v5, .null] [] (I, L, ab_RR, n, nc, ns) res := by
  refine ab_iload (i := 5) d_Roads_spread_38 rfl ?_
  refine ab_bipush (v := 10) d_Roads_spread_40 rfl ?_
  refine ab_icmp_ge (tgt := 136) d_Roads_spread_42 (by decide) (fun c1 => ?_) (fun c1 => ?_)
  · have h := h.1 c1
    refine ab_iload_n (i := 3) d_Roads_spread_136 rfl rfl ?_
    exact ab_iret (ty := .int) d_Roads_spread_137 rfl rfl h
  · have h := h.2 c1
    refine ab_iload (i := 4) d_Roads_spread_45 rfl ?_
    refine ab_iconst (v := (-1)) d_Roads_spread_47 rfl ?_
    refine ab_icmp_eq (tgt := 136) d_Roads_spread_48 (by decide) (fun c2 => ?_) (fun c2 => ?_)
    · have h := h.1 c2
      refine ab_iload_n (i := 3) d_Roads_spread_136 rfl rfl ?_
      exact ab_iret (ty := .int) d_Roads_spread_137 rfl rfl h
    · have h := h.2 c2
      refine ab_iload_n (i := 2) d_Roads_spread_51 rfl rfl ?_
      refine ab_iconst (v := 1) d_Roads_spread_52 rfl ?_
      refine ab_iload (i := 4) d_Roads_spread_53 rfl ?_
      refine ab_ishl d_Roads_spread_55 ?_
      refine ab_iconst (v := (-1)) d_Roads_spread_56 rfl ?_
      refine ab_ixor d_Roads_spread_57 ?_
      refine ab_iand d_Roads_spread_58 ?_
      refine ab_istore_n (i := 2) d_Roads_spread_59 rfl (by decide) (Or.inr rfl) ?_
      refine ab_iconst (v := 0) d_Roads_spread_60 rfl ?_
      refine ab_istore (i := 6) d_Roads_spread_61 (by decide) (Or.inr rfl) ?_
      exact h
theorem r_Roads_spread_63 {w : ab_Wd} {d n nc ns : Nat} {I : Nat → Nat → Int32} {L : Nat → Nat → Int64} {res : ab_Re} (hT : w.1.stackTraces = false) (v1 : Int32) (v2 : Int32) (v3 : Int32) (v4 : Int32) (v5 : Int32) (v6 : Int32) (hc : nc ≤ res.2.2.2.2.2.1) (hs : ns ≤ res.2.2.2.2.2.2)
    (h : (((I kx_roads 0) ≤ v6 → (∃ (r2 : Int32), ab_C w d mt_Roads_nearest [.ref kx_roads, .int v2] (I, L, ab_RR, n, nc, ns) (.inl (some (.int r2)), (I, L, ab_RR, n, nc, ns)) ∧ ((¬ r2 = (-1) → ((vp_in r2 10) ∧ ab_E w (d + 1) mt_Roads_spread 38 [.ref kx_roads, .int v1, .int v2, .int (v3 + (I kx_roads_near r2.toNatClampNeg)), .int r2, .int (v5 + 1), .null] [] (I, L, ab_RR, n, nc, ns) res)) ∧ (r2 = (-1) → (ab_E w (d + 1) mt_Roads_spread 38 [.ref kx_roads, .int v1, .int v2, .int (v3 + 0), .int r2, .int (v5 + 1), .null] [] (I, L, ab_RR, n, nc, ns) res))))) ∧ (¬ (I kx_roads 0) ≤ v6 → ((vp_in v6 10) ∧ (vp_in ((v4 * 10) + v6) 100) ∧ ab_E w (d + 1) mt_Roads_spread 63 [.ref kx_roads, .int v1, .int v2, .int v3, .int v4, .int v5, .int (v6 + 1)] [] ((ab_up I kx_roads_near v6.toNatClampNeg (ab_min32 (I kx_roads_near v6.toNatClampNeg) (I kx_roads_lengths ((v4 * 10) + v6).toNatClampNeg))), L, ab_RR, n, nc, ns) res)))) : ab_E w (d + 1) mt_Roads_spread 63 [.ref kx_roads, .int v1, .int v2, .int v3, .int v4, .int v5, .int v6] [] (I, L, ab_RR, n, nc, ns) res := by
  refine ab_iload (i := 6) d_Roads_spread_63 rfl ?_
  refine ab_aload_n (i := 0) d_Roads_spread_65 rfl rfl ?_
  refine ab_getI (ci := 5) (k := 0) d_Roads_spread_66 v_385 rfl (by decide) (by decide) rfl ?_
  refine ab_icmp_ge (tgt := 103) d_Roads_spread_69 (by decide) (fun c1 => ?_) (fun c1 => ?_)
  · have h := h.1 c1
    refine ab_aload_n (i := 0) d_Roads_spread_103 rfl rfl ?_
    refine ab_iload_n (i := 2) d_Roads_spread_104 rfl rfl ?_
    obtain ⟨r2, hC, h⟩ := h
    refine ab_callV (me2 := mt_Roads_nearest) (b := kx_roads) (as := [.int v2]) (st := []) (rv := (some (.int r2))) (M2 := (I, L, ab_RR, n, nc, ns)) d_Roads_spread_105 ce_Roads_nearest v_1259 v_1261 v_60 (by decide) rfl (Nat.le_of_ble_eq_true rfl) hC (Nat.le_refl _) (Nat.le_refl _) hc hs (fun j h9 => by cases h9) (fun _ _ => rfl) ?_
    show ab_E w (d + 1) mt_Roads_spread 108 [.ref kx_roads, .int v1, .int v2, .int v3, .int v4, .int v5, .int v6] [.int r2] (I, L, ab_RR, n, nc, ns) res
    refine ab_istore (i := 4) d_Roads_spread_108 (by decide) (Or.inr rfl) ?_
    refine ab_iload_n (i := 3) d_Roads_spread_110 rfl rfl ?_
    refine ab_iload (i := 4) d_Roads_spread_111 rfl ?_
    refine ab_iconst (v := (-1)) d_Roads_spread_113 rfl ?_
    refine ab_icmp_ne (tgt := 121) d_Roads_spread_114 (by decide) (fun c3 => ?_) (fun c3 => ?_)
    · have h := h.1 c3
      refine ab_aload_n (i := 0) d_Roads_spread_121 rfl rfl ?_
      refine ab_getR (ci := 5) (k := 2) (j := kx_roads_near) d_Roads_spread_122 v_387 rfl (by decide) (by decide) rfl r_kx_roads_2 ?_
      refine ab_iload (i := 4) d_Roads_spread_125 rfl ?_
      have g4 := h.1; have h := h.2
      refine ab_iald d_Roads_spread_127 rfl rfl g4 ?_
      refine ab_iadd d_Roads_spread_128 ?_
      refine ab_istore_n (i := 3) d_Roads_spread_129 rfl (by decide) (Or.inr rfl) ?_
      refine ab_iinc (i := 5) (v := (v5 + 1)) d_Roads_spread_130 rfl rfl (by decide) (Or.inr rfl) ?_
      refine ab_goto (tgt := 38) d_Roads_spread_133 (by decide) ?_
      refine ab_drop 6 ?_
      exact h
    · have h := h.2 c3
      refine ab_iconst (v := 0) d_Roads_spread_117 rfl ?_
      refine ab_goto (tgt := 128) d_Roads_spread_118 (by decide) ?_
      refine ab_iadd d_Roads_spread_128 ?_
      refine ab_istore_n (i := 3) d_Roads_spread_129 rfl (by decide) (Or.inr rfl) ?_
      refine ab_iinc (i := 5) (v := (v5 + 1)) d_Roads_spread_130 rfl rfl (by decide) (Or.inr rfl) ?_
      refine ab_goto (tgt := 38) d_Roads_spread_133 (by decide) ?_
      refine ab_drop 6 ?_
      exact h
  · have h := h.2 c1
    refine ab_aload_n (i := 0) d_Roads_spread_72 rfl rfl ?_
    refine ab_getR (ci := 5) (k := 2) (j := kx_roads_near) d_Roads_spread_73 v_387 rfl (by decide) (by decide) rfl r_kx_roads_2 ?_
    refine ab_iload (i := 6) d_Roads_spread_76 rfl ?_
    refine ab_aload_n (i := 0) d_Roads_spread_78 rfl rfl ?_
    refine ab_getR (ci := 5) (k := 2) (j := kx_roads_near) d_Roads_spread_79 v_387 rfl (by decide) (by decide) rfl r_kx_roads_2 ?_
    refine ab_iload (i := 6) d_Roads_spread_82 rfl ?_
    have g5 := h.1; have h := h.2
    refine ab_iald d_Roads_spread_84 rfl rfl g5 ?_
    refine ab_aload_n (i := 0) d_Roads_spread_85 rfl rfl ?_
    refine ab_iload (i := 4) d_Roads_spread_86 rfl ?_
    refine ab_iload (i := 6) d_Roads_spread_88 rfl ?_
    have g7 := h.1; have h := h.2
    refine ab_callV (me2 := mt_Roads_length) (b := kx_roads) (as := [.int v4, .int v6]) (st := [.int (I kx_roads_near v6.toNatClampNeg), .int v6, .ref kx_roads_near]) (rv := (some (.int (I kx_roads_lengths ((v4 * 10) + v6).toNatClampNeg)))) (M2 := (I, L, ab_RR, n, nc, ns)) d_Roads_spread_90 ce_Roads_length v_1044 v_1045 v_1046 (by decide) rfl (Nat.le_of_ble_eq_true rfl) (cx_Roads_length_0 v4 v6 hT g7) (Nat.le_refl _) (Nat.le_refl _) hc hs (fun j h9 => by cases h9) (fun _ _ => rfl) ?_
    show ab_E w (d + 1) mt_Roads_spread 93 [.ref kx_roads, .int v1, .int v2, .int v3, .int v4, .int v5, .int v6] [.int (I kx_roads_lengths ((v4 * 10) + v6).toNatClampNeg), .int (I kx_roads_near v6.toNatClampNeg), .int v6, .ref kx_roads_near] (I, L, ab_RR, n, nc, ns) res
    refine ab_min d_Roads_spread_93 v_1038 v_448 v_150 v_449 (Nat.succ_le_succ (Nat.zero_le _)) (Nat.le_of_ble_eq_true rfl) hc hs ?_
    refine ab_iast d_Roads_spread_96 rfl rfl g5 ?_
    refine ab_iinc (i := 6) (v := (v6 + 1)) d_Roads_spread_97 rfl rfl (by decide) (Or.inr rfl) ?_
    refine ab_goto (tgt := 63) d_Roads_spread_100 (by decide) ?_
    exact h
theorem r_Acts_keep_0 {w : ab_Wd} {d n nc ns : Nat} {I : Nat → Nat → Int32} {L : Nat → Nat → Int64} {res : ab_Re} (hT : w.1.stackTraces = false) (v2 : Int32) (hc : nc ≤ res.2.2.2.2.2.1) (hs : ns ≤ res.2.2.2.2.2.2)
    (h : ((¬ (I kx_now_acts 5) = 40 → ((¬ ((((I kx_now_acts 4) + (I kx_now_acts 5)) - ((I kx_now_acts 4) + (I kx_now_acts 5)) / 40 * 40) * 24) < 0) ∧ (((((I kx_now_acts 4) + (I kx_now_acts 5)) - ((I kx_now_acts 4) + (I kx_now_acts 5)) / 40 * 40) * 24).toNatClampNeg + 24 ≤ 960) ∧ (vp_in (((I kx_now_acts 4) + (I kx_now_acts 5)) - ((I kx_now_acts 4) + (I kx_now_acts 5)) / 40 * 40) 40) ∧ res = (.inl none, ((ab_up (ab_up (ab_up (ab_up (ab_row I kx_now_acts_prices (va_cpy (I kx_now_cables_price) (I kx_now_acts_prices) 0 ((((I kx_now_acts 4) + (I kx_now_acts 5)) - ((I kx_now_acts 4) + (I kx_now_acts 5)) / 40 * 40) * 24).toNatClampNeg 24)) kx_now_acts_counts (((I kx_now_acts 4) + (I kx_now_acts 5)) - ((I kx_now_acts 4) + (I kx_now_acts 5)) / 40 * 40).toNatClampNeg (I kx_now_cables 1)) kx_now_acts_sounds (((I kx_now_acts 4) + (I kx_now_acts 5)) - ((I kx_now_acts 4) + (I kx_now_acts 5)) / 40 * 40).toNatClampNeg (I kx_now_cables 2)) kx_now_acts_swaps (((I kx_now_acts 4) + (I kx_now_acts 5)) - ((I kx_now_acts 4) + (I kx_now_acts 5)) / 40 * 40).toNatClampNeg v2) kx_now_acts 5 ((I kx_now_acts 5) + 1)), L, ab_RR, n, nc, ns)))) ∧ ((I kx_now_acts 5) = 40 → ((¬ ((((((I kx_now_acts 4) + 1) - ((I kx_now_acts 4) + 1) / 40 * 40) + ((I kx_now_acts 5) - 1)) - ((((I kx_now_acts 4) + 1) - ((I kx_now_acts 4) + 1) / 40 * 40) + ((I kx_now_acts 5) - 1)) / 40 * 40) * 24) < 0) ∧ (((((((I kx_now_acts 4) + 1) - ((I kx_now_acts 4) + 1) / 40 * 40) + ((I kx_now_acts 5) - 1)) - ((((I kx_now_acts 4) + 1) - ((I kx_now_acts 4) + 1) / 40 * 40) + ((I kx_now_acts 5) - 1)) / 40 * 40) * 24).toNatClampNeg + 24 ≤ 960) ∧ (vp_in (((((I kx_now_acts 4) + 1) - ((I kx_now_acts 4) + 1) / 40 * 40) + ((I kx_now_acts 5) - 1)) - ((((I kx_now_acts 4) + 1) - ((I kx_now_acts 4) + 1) / 40 * 40) + ((I kx_now_acts 5) - 1)) / 40 * 40) 40) ∧ res = (.inl none, ((ab_up (ab_up (ab_up (ab_up (ab_row (ab_up (ab_up I kx_now_acts 4 (((I kx_now_acts 4) + 1) - ((I kx_now_acts 4) + 1) / 40 * 40)) kx_now_acts 5 ((I kx_now_acts 5) - 1)) kx_now_acts_prices (va_cpy (I kx_now_cables_price) (I kx_now_acts_prices) 0 ((((((I kx_now_acts 4) + 1) - ((I kx_now_acts 4) + 1) / 40 * 40) + ((I kx_now_acts 5) - 1)) - ((((I kx_now_acts 4) + 1) - ((I kx_now_acts 4) + 1) / 40 * 40) + ((I kx_now_acts 5) - 1)) / 40 * 40) * 24).toNatClampNeg 24)) kx_now_acts_counts (((((I kx_now_acts 4) + 1) - ((I kx_now_acts 4) + 1) / 40 * 40) + ((I kx_now_acts 5) - 1)) - ((((I kx_now_acts 4) + 1) - ((I kx_now_acts 4) + 1) / 40 * 40) + ((I kx_now_acts 5) - 1)) / 40 * 40).toNatClampNeg (I kx_now_cables 1)) kx_now_acts_sounds (((((I kx_now_acts 4) + 1) - ((I kx_now_acts 4) + 1) / 40 * 40) + ((I kx_now_acts 5) - 1)) - ((((I kx_now_acts 4) + 1) - ((I kx_now_acts 4) + 1) / 40 * 40) + ((I kx_now_acts 5) - 1)) / 40 * 40).toNatClampNeg (I kx_now_cables 2)) kx_now_acts_swaps (((((I kx_now_acts 4) + 1) - ((I kx_now_acts 4) + 1) / 40 * 40) + ((I kx_now_acts 5) - 1)) - ((((I kx_now_acts 4) + 1) - ((I kx_now_acts 4) + 1) / 40 * 40) + ((I kx_now_acts 5) - 1)) / 40 * 40).toNatClampNeg v2) kx_now_acts 5 (((I kx_now_acts 5) - 1) + 1)), L, ab_RR, n, nc, ns)))))) : ab_E w (d + 1) mt_Acts_keep 0 [.ref kx_now_acts, .ref kx_now_cables, .int v2, .null] [] (I, L, ab_RR, n, nc, ns) res := by
  refine ab_aload_n (i := 0) d_Acts_keep_0 rfl rfl ?_
  refine ab_getI (ci := 0) (k := 5) d_Acts_keep_1 v_278 rfl (by decide) (by decide) rfl ?_
  refine ab_bipush (v := 40) d_Acts_keep_4 rfl ?_
  refine ab_icmp_ne (tgt := 32) d_Acts_keep_6 (by decide) (fun c1 => ?_) (fun c1 => ?_)
  · have h := h.1 c1
    refine ab_aload_n (i := 0) d_Acts_keep_32 rfl rfl ?_
    refine ab_getI (ci := 0) (k := 4) d_Acts_keep_33 v_277 rfl (by decide) (by decide) rfl ?_
    refine ab_aload_n (i := 0) d_Acts_keep_36 rfl rfl ?_
    refine ab_getI (ci := 0) (k := 5) d_Acts_keep_37 v_278 rfl (by decide) (by decide) rfl ?_
    refine ab_iadd d_Acts_keep_40 ?_
    refine ab_bipush (v := 40) d_Acts_keep_41 rfl ?_
    refine ab_irem d_Acts_keep_43 (by decide) ?_
    refine ab_istore_n (i := 3) d_Acts_keep_44 rfl (by decide) (Or.inr rfl) ?_
    refine ab_aload_n (i := 1) d_Acts_keep_45 rfl rfl ?_
    refine ab_getR (ci := 1) (k := 5) (j := kx_now_cables_price) d_Acts_keep_46 v_222 rfl (by decide) (by decide) rfl r_kx_now_cables_5 ?_
    refine ab_iconst (v := 0) d_Acts_keep_49 rfl ?_
    refine ab_aload_n (i := 0) d_Acts_keep_50 rfl rfl ?_
    refine ab_getR (ci := 0) (k := 0) (j := kx_now_acts_prices) d_Acts_keep_51 v_273 rfl (by decide) (by decide) rfl r_kx_now_acts_0 ?_
    refine ab_iload_n (i := 3) d_Acts_keep_54 rfl rfl ?_
    refine ab_bipush (v := 24) d_Acts_keep_55 rfl ?_
    refine ab_imul d_Acts_keep_57 ?_
    refine ab_bipush (v := 24) d_Acts_keep_58 rfl ?_
    have g2 := h.1; have h := h.2
    have g3 := h.1; have h := h.2
    refine ab_copy d_Acts_keep_60 v_586 v_562 v_561 v_161 rfl rfl rfl rfl (by decide) g2 (by decide) (by decide) g3 (Nat.succ_le_succ (Nat.zero_le _)) (Nat.le_of_ble_eq_true rfl) ?_
    refine ab_aload_n (i := 0) d_Acts_keep_63 rfl rfl ?_
    refine ab_getR (ci := 0) (k := 1) (j := kx_now_acts_counts) d_Acts_keep_64 v_274 rfl (by decide) (by decide) rfl r_kx_now_acts_1 ?_
    refine ab_iload_n (i := 3) d_Acts_keep_67 rfl rfl ?_
    refine ab_aload_n (i := 1) d_Acts_keep_68 rfl rfl ?_
    refine ab_getI (ci := 1) (k := 1) d_Acts_keep_69 v_197 rfl (by decide) (by decide) rfl ?_
    have g4 := h.1; have h := h.2
    refine ab_iast d_Acts_keep_72 rfl rfl g4 ?_
    refine ab_aload_n (i := 0) d_Acts_keep_73 rfl rfl ?_
    refine ab_getR (ci := 0) (k := 2) (j := kx_now_acts_sounds) d_Acts_keep_74 v_275 rfl (by decide) (by decide) rfl r_kx_now_acts_2 ?_
    refine ab_iload_n (i := 3) d_Acts_keep_77 rfl rfl ?_
    refine ab_aload_n (i := 1) d_Acts_keep_78 rfl rfl ?_
    refine ab_getI (ci := 1) (k := 2) d_Acts_keep_79 v_201 rfl (by decide) (by decide) rfl ?_
    refine ab_iast d_Acts_keep_82 rfl rfl g4 ?_
    refine ab_aload_n (i := 0) d_Acts_keep_83 rfl rfl ?_
    refine ab_getR (ci := 0) (k := 3) (j := kx_now_acts_swaps) d_Acts_keep_84 v_276 rfl (by decide) (by decide) rfl r_kx_now_acts_3 ?_
    refine ab_iload_n (i := 3) d_Acts_keep_87 rfl rfl ?_
    refine ab_iload_n (i := 2) d_Acts_keep_88 rfl rfl ?_
    refine ab_iast d_Acts_keep_89 rfl rfl g4 ?_
    refine ab_aload_n (i := 0) d_Acts_keep_90 rfl rfl ?_
    refine ab_dupr d_Acts_keep_91 ?_
    refine ab_getI (ci := 0) (k := 5) d_Acts_keep_92 v_278 rfl (by decide) (by decide) rfl ?_
    refine ab_iconst (v := 1) d_Acts_keep_95 rfl ?_
    refine ab_iadd d_Acts_keep_96 ?_
    refine ab_putI (ci := 0) (k := 5) d_Acts_keep_97 v_278 rfl (by decide) (by decide) rfl (Or.inl rfl) rfl rfl ?_
    exact ab_vret d_Acts_keep_100 rfl h
  · have h := h.2 c1
    refine ab_aload_n (i := 0) d_Acts_keep_9 rfl rfl ?_
    refine ab_aload_n (i := 0) d_Acts_keep_10 rfl rfl ?_
    refine ab_getI (ci := 0) (k := 4) d_Acts_keep_11 v_277 rfl (by decide) (by decide) rfl ?_
    refine ab_iconst (v := 1) d_Acts_keep_14 rfl ?_
    refine ab_iadd d_Acts_keep_15 ?_
    refine ab_bipush (v := 40) d_Acts_keep_16 rfl ?_
    refine ab_irem d_Acts_keep_18 (by decide) ?_
    refine ab_putI (ci := 0) (k := 4) d_Acts_keep_19 v_277 rfl (by decide) (by decide) rfl (Or.inl rfl) rfl rfl ?_
    refine ab_aload_n (i := 0) d_Acts_keep_22 rfl rfl ?_
    refine ab_dupr d_Acts_keep_23 ?_
    refine ab_getI (ci := 0) (k := 5) d_Acts_keep_24 v_278 rfl (by decide) (by decide) rfl ?_
    refine ab_iconst (v := 1) d_Acts_keep_27 rfl ?_
    refine ab_isub d_Acts_keep_28 ?_
    refine ab_putI (ci := 0) (k := 5) d_Acts_keep_29 v_278 rfl (by decide) (by decide) rfl (Or.inl rfl) rfl rfl ?_
    refine ab_aload_n (i := 0) d_Acts_keep_32 rfl rfl ?_
    refine ab_getI (ci := 0) (k := 4) d_Acts_keep_33 v_277 rfl (by decide) (by decide) rfl ?_
    refine ab_aload_n (i := 0) d_Acts_keep_36 rfl rfl ?_
    refine ab_getI (ci := 0) (k := 5) d_Acts_keep_37 v_278 rfl (by decide) (by decide) rfl ?_
    refine ab_iadd d_Acts_keep_40 ?_
    refine ab_bipush (v := 40) d_Acts_keep_41 rfl ?_
    refine ab_irem d_Acts_keep_43 (by decide) ?_
    refine ab_istore_n (i := 3) d_Acts_keep_44 rfl (by decide) (Or.inr rfl) ?_
    refine ab_aload_n (i := 1) d_Acts_keep_45 rfl rfl ?_
    refine ab_getR (ci := 1) (k := 5) (j := kx_now_cables_price) d_Acts_keep_46 v_222 rfl (by decide) (by decide) rfl r_kx_now_cables_5 ?_
    refine ab_iconst (v := 0) d_Acts_keep_49 rfl ?_
    refine ab_aload_n (i := 0) d_Acts_keep_50 rfl rfl ?_
    refine ab_getR (ci := 0) (k := 0) (j := kx_now_acts_prices) d_Acts_keep_51 v_273 rfl (by decide) (by decide) rfl r_kx_now_acts_0 ?_
    refine ab_iload_n (i := 3) d_Acts_keep_54 rfl rfl ?_
    refine ab_bipush (v := 24) d_Acts_keep_55 rfl ?_
    refine ab_imul d_Acts_keep_57 ?_
    refine ab_bipush (v := 24) d_Acts_keep_58 rfl ?_
    have g5 := h.1; have h := h.2
    have g6 := h.1; have h := h.2
    refine ab_copy d_Acts_keep_60 v_586 v_562 v_561 v_161 rfl rfl rfl rfl (by decide) g5 (by decide) (by decide) g6 (Nat.succ_le_succ (Nat.zero_le _)) (Nat.le_of_ble_eq_true rfl) ?_
    refine ab_aload_n (i := 0) d_Acts_keep_63 rfl rfl ?_
    refine ab_getR (ci := 0) (k := 1) (j := kx_now_acts_counts) d_Acts_keep_64 v_274 rfl (by decide) (by decide) rfl r_kx_now_acts_1 ?_
    refine ab_iload_n (i := 3) d_Acts_keep_67 rfl rfl ?_
    refine ab_aload_n (i := 1) d_Acts_keep_68 rfl rfl ?_
    refine ab_getI (ci := 1) (k := 1) d_Acts_keep_69 v_197 rfl (by decide) (by decide) rfl ?_
    have g7 := h.1; have h := h.2
    refine ab_iast d_Acts_keep_72 rfl rfl g7 ?_
    refine ab_aload_n (i := 0) d_Acts_keep_73 rfl rfl ?_
    refine ab_getR (ci := 0) (k := 2) (j := kx_now_acts_sounds) d_Acts_keep_74 v_275 rfl (by decide) (by decide) rfl r_kx_now_acts_2 ?_
    refine ab_iload_n (i := 3) d_Acts_keep_77 rfl rfl ?_
    refine ab_aload_n (i := 1) d_Acts_keep_78 rfl rfl ?_
    refine ab_getI (ci := 1) (k := 2) d_Acts_keep_79 v_201 rfl (by decide) (by decide) rfl ?_
    refine ab_iast d_Acts_keep_82 rfl rfl g7 ?_
    refine ab_aload_n (i := 0) d_Acts_keep_83 rfl rfl ?_
    refine ab_getR (ci := 0) (k := 3) (j := kx_now_acts_swaps) d_Acts_keep_84 v_276 rfl (by decide) (by decide) rfl r_kx_now_acts_3 ?_
    refine ab_iload_n (i := 3) d_Acts_keep_87 rfl rfl ?_
    refine ab_iload_n (i := 2) d_Acts_keep_88 rfl rfl ?_
    refine ab_iast d_Acts_keep_89 rfl rfl g7 ?_
    refine ab_aload_n (i := 0) d_Acts_keep_90 rfl rfl ?_
    refine ab_dupr d_Acts_keep_91 ?_
    refine ab_getI (ci := 0) (k := 5) d_Acts_keep_92 v_278 rfl (by decide) (by decide) rfl ?_
    refine ab_iconst (v := 1) d_Acts_keep_95 rfl ?_
    refine ab_iadd d_Acts_keep_96 ?_
    refine ab_putI (ci := 0) (k := 5) d_Acts_keep_97 v_278 rfl (by decide) (by decide) rfl (Or.inl rfl) rfl rfl ?_
    exact ab_vret d_Acts_keep_100 rfl h
theorem r_Ways_connect_0 {w : ab_Wd} {d n nc ns : Nat} {I : Nat → Nat → Int32} {L : Nat → Nat → Int64} {res : ab_Re} (hT : w.1.stackTraces = false) (v2 : Int32) (hc : nc ≤ res.2.2.2.2.2.1) (hs : ns ≤ res.2.2.2.2.2.2)
    (h : (vp_in v2 24) ∧ ∃ (r2 : Int32), ab_C w d mt_Ways_joinedWith [.ref kx_ways, .int (I kx_now_cables_first v2.toNatClampNeg)] (I, L, ab_RR, n, nc, ns) (.inl (some (.int r2)), (I, L, ab_RR, n, nc, ns)) ∧ ∃ (r3 : Int32), ab_C w d mt_Ways_joinedWith [.ref kx_ways, .int (I kx_now_cables_second v2.toNatClampNeg)] (I, L, ab_RR, n, nc, ns) (.inl (some (.int r3)), (I, L, ab_RR, n, nc, ns)) ∧ ab_E w (d + 1) mt_Ways_connect 26 [.ref kx_ways, .ref kx_now_cables, .int v2, .int r2, .int r3, .int 0, .null, .null] [] (I, L, ab_RR, n, nc, ns) res) : ab_E w (d + 1) mt_Ways_connect 0 [.ref kx_ways, .ref kx_now_cables, .int v2, .null, .null, .null, .null, .null] [] (I, L, ab_RR, n, nc, ns) res := by
  refine ab_aload_n (i := 0) d_Ways_connect_0 rfl rfl ?_
  refine ab_aload_n (i := 1) d_Ways_connect_1 rfl rfl ?_
  refine ab_getR (ci := 1) (k := 3) (j := kx_now_cables_first) d_Ways_connect_2 v_210 rfl (by decide) (by decide) rfl r_kx_now_cables_3 ?_
  refine ab_iload_n (i := 2) d_Ways_connect_5 rfl rfl ?_
  have g1 := h.1; have h := h.2
  refine ab_iald d_Ways_connect_6 rfl rfl g1 ?_
  obtain ⟨r2, hC, h⟩ := h
  refine ab_callV (me2 := mt_Ways_joinedWith) (b := kx_ways) (as := [.int (I kx_now_cables_first v2.toNatClampNeg)]) (st := []) (rv := (some (.int r2))) (M2 := (I, L, ab_RR, n, nc, ns)) d_Ways_connect_7 ce_Ways_joinedWith v_464 v_466 v_2 (by decide) rfl (Nat.le_of_ble_eq_true rfl) hC (Nat.le_refl _) (Nat.le_refl _) hc hs (fun j h9 => by cases h9) (fun _ _ => rfl) ?_
  show ab_E w (d + 1) mt_Ways_connect 10 [.ref kx_ways, .ref kx_now_cables, .int v2, .null, .null, .null, .null, .null] [.int r2] (I, L, ab_RR, n, nc, ns) res
  refine ab_istore_n (i := 3) d_Ways_connect_10 rfl (by decide) (Or.inr rfl) ?_
  refine ab_aload_n (i := 0) d_Ways_connect_11 rfl rfl ?_
  refine ab_aload_n (i := 1) d_Ways_connect_12 rfl rfl ?_
  refine ab_getR (ci := 1) (k := 4) (j := kx_now_cables_second) d_Ways_connect_13 v_217 rfl (by decide) (by decide) rfl r_kx_now_cables_4 ?_
  refine ab_iload_n (i := 2) d_Ways_connect_16 rfl rfl ?_
  refine ab_iald d_Ways_connect_17 rfl rfl g1 ?_
  obtain ⟨r3, hC, h⟩ := h
  refine ab_callV (me2 := mt_Ways_joinedWith) (b := kx_ways) (as := [.int (I kx_now_cables_second v2.toNatClampNeg)]) (st := []) (rv := (some (.int r3))) (M2 := (I, L, ab_RR, n, nc, ns)) d_Ways_connect_18 ce_Ways_joinedWith v_464 v_466 v_2 (by decide) rfl (Nat.le_of_ble_eq_true rfl) hC (Nat.le_refl _) (Nat.le_refl _) hc hs (fun j h9 => by cases h9) (fun _ _ => rfl) ?_
  show ab_E w (d + 1) mt_Ways_connect 21 [.ref kx_ways, .ref kx_now_cables, .int v2, .int r2, .null, .null, .null, .null] [.int r3] (I, L, ab_RR, n, nc, ns) res
  refine ab_istore (i := 4) d_Ways_connect_21 (by decide) (Or.inr rfl) ?_
  refine ab_iconst (v := 0) d_Ways_connect_23 rfl ?_
  refine ab_istore (i := 5) d_Ways_connect_24 (by decide) (Or.inr rfl) ?_
  exact h
theorem r_Ways_connect_26 {w : ab_Wd} {d n nc ns : Nat} {I : Nat → Nat → Int32} {L : Nat → Nat → Int64} {res : ab_Re} (hT : w.1.stackTraces = false) (v2 : Int32) (v3 : Int32) (v4 : Int32) (v5 : Int32) (hc : nc ≤ res.2.2.2.2.2.1) (hs : ns ≤ res.2.2.2.2.2.2)
    (h : (((I kx_ways 0) ≤ v5 → (res = (.inl none, (I, L, ab_RR, n, nc, ns)))) ∧ (¬ (I kx_ways 0) ≤ v5 → ((¬ ((v3 >>> (v5 &&& 31)) &&& 1) = 1 → (ab_E w (d + 1) mt_Ways_connect 55 [.ref kx_ways, .ref kx_now_cables, .int v2, .int v3, .int v4, .int v5, .int 0, .int 0] [] (I, L, ab_RR, n, nc, ns) res)) ∧ (((v3 >>> (v5 &&& 31)) &&& 1) = 1 → (ab_E w (d + 1) mt_Ways_connect 55 [.ref kx_ways, .ref kx_now_cables, .int v2, .int v3, .int v4, .int v5, .int 1, .int 0] [] (I, L, ab_RR, n, nc, ns) res)))))) : ab_E w (d + 1) mt_Ways_connect 26 [.ref kx_ways, .ref kx_now_cables, .int v2, .int v3, .int v4, .int v5, .null, .null] [] (I, L, ab_RR, n, nc, ns) res := by
  refine ab_iload (i := 5) d_Ways_connect_26 rfl ?_
  refine ab_aload_n (i := 0) d_Ways_connect_28 rfl rfl ?_
  refine ab_getI (ci := 9) (k := 0) d_Ways_connect_29 v_361 rfl (by decide) (by decide) rfl ?_
  refine ab_icmp_ge (tgt := 102) d_Ways_connect_32 (by decide) (fun c1 => ?_) (fun c1 => ?_)
  · have h := h.1 c1
    exact ab_vret d_Ways_connect_102 rfl h
  · have h := h.2 c1
    refine ab_iload_n (i := 3) d_Ways_connect_35 rfl rfl ?_
    refine ab_iload (i := 5) d_Ways_connect_36 rfl ?_
    refine ab_ishr d_Ways_connect_38 ?_
    refine ab_iconst (v := 1) d_Ways_connect_39 rfl ?_
    refine ab_iand d_Ways_connect_40 ?_
    refine ab_iconst (v := 1) d_Ways_connect_41 rfl ?_
    refine ab_icmp_ne (tgt := 49) d_Ways_connect_42 (by decide) (fun c2 => ?_) (fun c2 => ?_)
    · have h := h.1 c2
      refine ab_iconst (v := 0) d_Ways_connect_49 rfl ?_
      refine ab_istore (i := 6) d_Ways_connect_50 (by decide) (Or.inr rfl) ?_
      refine ab_iconst (v := 0) d_Ways_connect_52 rfl ?_
      refine ab_istore (i := 7) d_Ways_connect_53 (by decide) (Or.inr rfl) ?_
      exact h
    · have h := h.2 c2
      refine ab_iconst (v := 1) d_Ways_connect_45 rfl ?_
      refine ab_goto (tgt := 50) d_Ways_connect_46 (by decide) ?_
      refine ab_istore (i := 6) d_Ways_connect_50 (by decide) (Or.inr rfl) ?_
      refine ab_iconst (v := 0) d_Ways_connect_52 rfl ?_
      refine ab_istore (i := 7) d_Ways_connect_53 (by decide) (Or.inr rfl) ?_
      exact h
theorem r_Ways_connect_55 {w : ab_Wd} {d n nc ns : Nat} {I : Nat → Nat → Int32} {L : Nat → Nat → Int64} {res : ab_Re} (hT : w.1.stackTraces = false) (v2 : Int32) (v3 : Int32) (v4 : Int32) (v5 : Int32) (v6 : Int32) (v7 : Int32) (hc : nc ≤ res.2.2.2.2.2.1) (hs : ns ≤ res.2.2.2.2.2.2)
    (h : (((I kx_ways 0) ≤ v7 → (ab_E w (d + 1) mt_Ways_connect 26 [.ref kx_ways, .ref kx_now_cables, .int v2, .int v3, .int v4, .int (v5 + 1), .null, .null] [] (I, L, ab_RR, n, nc, ns) res)) ∧ (¬ (I kx_ways 0) ≤ v7 → ((v6 = 0 → (ab_E w (d + 1) mt_Ways_connect 26 [.ref kx_ways, .ref kx_now_cables, .int v2, .int v3, .int v4, .int (v5 + 1), .null, .null] [] (I, L, ab_RR, n, nc, ns) res)) ∧ (¬ v6 = 0 → ((¬ ((v4 >>> (v7 &&& 31)) &&& 1) = 1 → (ab_E w (d + 1) mt_Ways_connect 55 [.ref kx_ways, .ref kx_now_cables, .int v2, .int v3, .int v4, .int v5, .int v6, .int (v7 + 1)] [] (I, L, ab_RR, n, nc, ns) res)) ∧ (((v4 >>> (v7 &&& 31)) &&& 1) = 1 → (∃ (I5 : Nat → Nat → Int32), ab_C w d mt_Ways_link [.ref kx_ways, .ref kx_now_cables, .int v2, .int v5, .int v7] (I, L, ab_RR, n, nc, ns) (.inl none, (I5, L, ab_RR, n, nc, ns)) ∧ ab_E w (d + 1) mt_Ways_connect 55 [.ref kx_ways, .ref kx_now_cables, .int v2, .int v3, .int v4, .int v5, .int v6, .int (v7 + 1)] [] (I5, L, ab_RR, n, nc, ns) res)))))))) : ab_E w (d + 1) mt_Ways_connect 55 [.ref kx_ways, .ref kx_now_cables, .int v2, .int v3, .int v4, .int v5, .int v6, .int v7] [] (I, L, ab_RR, n, nc, ns) res := by
  refine ab_iload (i := 7) d_Ways_connect_55 rfl ?_
  refine ab_aload_n (i := 0) d_Ways_connect_57 rfl rfl ?_
  refine ab_getI (ci := 9) (k := 0) d_Ways_connect_58 v_361 rfl (by decide) (by decide) rfl ?_
  refine ab_icmp_ge (tgt := 96) d_Ways_connect_61 (by decide) (fun c1 => ?_) (fun c1 => ?_)
  · have h := h.1 c1
    refine ab_iinc (i := 5) (v := (v5 + 1)) d_Ways_connect_96 rfl rfl (by decide) (Or.inr rfl) ?_
    refine ab_goto (tgt := 26) d_Ways_connect_99 (by decide) ?_
    refine ab_drop 6 ?_
    refine ab_drop 7 ?_
    exact h
  · have h := h.2 c1
    refine ab_iload (i := 6) d_Ways_connect_64 rfl ?_
    refine ab_if_eq (tgt := 96) d_Ways_connect_66 (by decide) (fun c2 => ?_) (fun c2 => ?_)
    · have h := h.1 c2
      refine ab_iinc (i := 5) (v := (v5 + 1)) d_Ways_connect_96 rfl rfl (by decide) (Or.inr rfl) ?_
      refine ab_goto (tgt := 26) d_Ways_connect_99 (by decide) ?_
      refine ab_drop 6 ?_
      refine ab_drop 7 ?_
      exact h
    · have h := h.2 c2
      refine ab_iload (i := 4) d_Ways_connect_69 rfl ?_
      refine ab_iload (i := 7) d_Ways_connect_71 rfl ?_
      refine ab_ishr d_Ways_connect_73 ?_
      refine ab_iconst (v := 1) d_Ways_connect_74 rfl ?_
      refine ab_iand d_Ways_connect_75 ?_
      refine ab_iconst (v := 1) d_Ways_connect_76 rfl ?_
      refine ab_icmp_ne (tgt := 90) d_Ways_connect_77 (by decide) (fun c3 => ?_) (fun c3 => ?_)
      · have h := h.1 c3
        refine ab_iinc (i := 7) (v := (v7 + 1)) d_Ways_connect_90 rfl rfl (by decide) (Or.inr rfl) ?_
        refine ab_goto (tgt := 55) d_Ways_connect_93 (by decide) ?_
        exact h
      · have h := h.2 c3
        refine ab_aload_n (i := 0) d_Ways_connect_80 rfl rfl ?_
        refine ab_aload_n (i := 1) d_Ways_connect_81 rfl rfl ?_
        refine ab_iload_n (i := 2) d_Ways_connect_82 rfl rfl ?_
        refine ab_iload (i := 5) d_Ways_connect_83 rfl ?_
        refine ab_iload (i := 7) d_Ways_connect_85 rfl ?_
        obtain ⟨I5, hC, h⟩ := h
        refine ab_callV (me2 := mt_Ways_link) (b := kx_ways) (as := [.ref kx_now_cables, .int v2, .int v5, .int v7]) (st := []) (rv := none) (M2 := (I5, L, ab_RR, n, nc, ns)) d_Ways_connect_87 ce_Ways_link v_468 v_470 v_3 (by decide) rfl (Nat.le_of_ble_eq_true rfl) hC (Nat.le_refl _) (Nat.le_refl _) hc hs (fun j h9 => by cases h9) (fun _ _ => rfl) ?_
        show ab_E w (d + 1) mt_Ways_connect 90 [.ref kx_ways, .ref kx_now_cables, .int v2, .int v3, .int v4, .int v5, .int v6, .int v7] [] (I5, L, ab_RR, n, nc, ns) res
        refine ab_iinc (i := 7) (v := (v7 + 1)) d_Ways_connect_90 rfl rfl (by decide) (Or.inr rfl) ?_
        refine ab_goto (tgt := 55) d_Ways_connect_93 (by decide) ?_
        exact h
theorem r_Acts_copy_0_0 {w : ab_Wd} {d n nc ns : Nat} {I : Nat → Nat → Int32} {L : Nat → Nat → Int64} {res : ab_Re} (hT : w.1.stackTraces = false)  (hc : nc ≤ res.2.2.2.2.2.1) (hs : ns ≤ res.2.2.2.2.2.2)
    (h : res = (.inl none, ((ab_up (ab_up (ab_row (ab_row (ab_row (ab_row I kx_kept_acts_prices (va_cpy (I kx_now_acts_prices) (I kx_kept_acts_prices) 0 0 960)) kx_kept_acts_counts (va_cpy (I kx_now_acts_counts) (I kx_kept_acts_counts) 0 0 40)) kx_kept_acts_sounds (va_cpy (I kx_now_acts_sounds) (I kx_kept_acts_sounds) 0 0 40)) kx_kept_acts_swaps (va_cpy (I kx_now_acts_swaps) (I kx_kept_acts_swaps) 0 0 40)) kx_kept_acts 4 (I kx_now_acts 4)) kx_kept_acts 5 (I kx_now_acts 5)), L, ab_RR, n, nc, ns))) : ab_E w (d + 1) mt_Acts_copy 0 [.ref kx_kept_acts, .ref kx_now_acts] [] (I, L, ab_RR, n, nc, ns) res := by
  refine ab_aload_n (i := 1) d_Acts_copy_0 rfl rfl ?_
  refine ab_getR (ci := 0) (k := 0) (j := kx_now_acts_prices) d_Acts_copy_1 v_273 rfl (by decide) (by decide) rfl r_kx_now_acts_0 ?_
  refine ab_iconst (v := 0) d_Acts_copy_4 rfl ?_
  refine ab_aload_n (i := 0) d_Acts_copy_5 rfl rfl ?_
  refine ab_getR (ci := 0) (k := 0) (j := kx_kept_acts_prices) d_Acts_copy_6 v_273 rfl (by decide) (by decide) rfl r_kx_kept_acts_0 ?_
  refine ab_iconst (v := 0) d_Acts_copy_9 rfl ?_
  refine ab_aload_n (i := 0) d_Acts_copy_10 rfl rfl ?_
  refine ab_getR (ci := 0) (k := 0) (j := kx_kept_acts_prices) d_Acts_copy_11 v_273 rfl (by decide) (by decide) rfl r_kx_kept_acts_0 ?_
  refine ab_alen (v := 960) d_Acts_copy_14 (by decide) (by decide) rfl ?_
  refine ab_copy d_Acts_copy_15 v_586 v_562 v_561 v_161 rfl rfl rfl rfl (by decide) (by decide) (by decide) (by decide) (by decide) (Nat.succ_le_succ (Nat.zero_le _)) (Nat.le_of_ble_eq_true rfl) ?_
  refine ab_aload_n (i := 1) d_Acts_copy_18 rfl rfl ?_
  refine ab_getR (ci := 0) (k := 1) (j := kx_now_acts_counts) d_Acts_copy_19 v_274 rfl (by decide) (by decide) rfl r_kx_now_acts_1 ?_
  refine ab_iconst (v := 0) d_Acts_copy_22 rfl ?_
  refine ab_aload_n (i := 0) d_Acts_copy_23 rfl rfl ?_
  refine ab_getR (ci := 0) (k := 1) (j := kx_kept_acts_counts) d_Acts_copy_24 v_274 rfl (by decide) (by decide) rfl r_kx_kept_acts_1 ?_
  refine ab_iconst (v := 0) d_Acts_copy_27 rfl ?_
  refine ab_bipush (v := 40) d_Acts_copy_28 rfl ?_
  refine ab_copy d_Acts_copy_30 v_586 v_562 v_561 v_161 rfl rfl rfl rfl (by decide) (by decide) (by decide) (by decide) (by decide) (Nat.succ_le_succ (Nat.zero_le _)) (Nat.le_of_ble_eq_true rfl) ?_
  refine ab_aload_n (i := 1) d_Acts_copy_33 rfl rfl ?_
  refine ab_getR (ci := 0) (k := 2) (j := kx_now_acts_sounds) d_Acts_copy_34 v_275 rfl (by decide) (by decide) rfl r_kx_now_acts_2 ?_
  refine ab_iconst (v := 0) d_Acts_copy_37 rfl ?_
  refine ab_aload_n (i := 0) d_Acts_copy_38 rfl rfl ?_
  refine ab_getR (ci := 0) (k := 2) (j := kx_kept_acts_sounds) d_Acts_copy_39 v_275 rfl (by decide) (by decide) rfl r_kx_kept_acts_2 ?_
  refine ab_iconst (v := 0) d_Acts_copy_42 rfl ?_
  refine ab_bipush (v := 40) d_Acts_copy_43 rfl ?_
  refine ab_copy d_Acts_copy_45 v_586 v_562 v_561 v_161 rfl rfl rfl rfl (by decide) (by decide) (by decide) (by decide) (by decide) (Nat.succ_le_succ (Nat.zero_le _)) (Nat.le_of_ble_eq_true rfl) ?_
  refine ab_aload_n (i := 1) d_Acts_copy_48 rfl rfl ?_
  refine ab_getR (ci := 0) (k := 3) (j := kx_now_acts_swaps) d_Acts_copy_49 v_276 rfl (by decide) (by decide) rfl r_kx_now_acts_3 ?_
  refine ab_iconst (v := 0) d_Acts_copy_52 rfl ?_
  refine ab_aload_n (i := 0) d_Acts_copy_53 rfl rfl ?_
  refine ab_getR (ci := 0) (k := 3) (j := kx_kept_acts_swaps) d_Acts_copy_54 v_276 rfl (by decide) (by decide) rfl r_kx_kept_acts_3 ?_
  refine ab_iconst (v := 0) d_Acts_copy_57 rfl ?_
  refine ab_bipush (v := 40) d_Acts_copy_58 rfl ?_
  refine ab_copy d_Acts_copy_60 v_586 v_562 v_561 v_161 rfl rfl rfl rfl (by decide) (by decide) (by decide) (by decide) (by decide) (Nat.succ_le_succ (Nat.zero_le _)) (Nat.le_of_ble_eq_true rfl) ?_
  refine ab_aload_n (i := 0) d_Acts_copy_63 rfl rfl ?_
  refine ab_aload_n (i := 1) d_Acts_copy_64 rfl rfl ?_
  refine ab_getI (ci := 0) (k := 4) d_Acts_copy_65 v_277 rfl (by decide) (by decide) rfl ?_
  refine ab_putI (ci := 0) (k := 4) d_Acts_copy_68 v_277 rfl (by decide) (by decide) rfl (Or.inl rfl) rfl rfl ?_
  refine ab_aload_n (i := 0) d_Acts_copy_71 rfl rfl ?_
  refine ab_aload_n (i := 1) d_Acts_copy_72 rfl rfl ?_
  refine ab_getI (ci := 0) (k := 5) d_Acts_copy_73 v_278 rfl (by decide) (by decide) rfl ?_
  refine ab_putI (ci := 0) (k := 5) d_Acts_copy_76 v_278 rfl (by decide) (by decide) rfl (Or.inl rfl) rfl rfl ?_
  exact ab_vret d_Acts_copy_79 rfl h
theorem r_Cables_copy_2_0 {w : ab_Wd} {d n nc ns : Nat} {I : Nat → Nat → Int32} {L : Nat → Nat → Int64} {res : ab_Re} (hT : w.1.stackTraces = false)  (hc : nc ≤ res.2.2.2.2.2.1) (hs : ns ≤ res.2.2.2.2.2.2)
    (h : res = (.inl none, ((ab_row (ab_row (ab_row (ab_row (ab_row (ab_up (ab_up (ab_up I kx_kept_cables 0 (I kx_now_cables 0)) kx_kept_cables 1 (I kx_now_cables 1)) kx_kept_cables 2 (I kx_now_cables 2)) kx_kept_cables_first (va_cpy (I kx_now_cables_first) (I kx_kept_cables_first) 0 0 24)) kx_kept_cables_second (va_cpy (I kx_now_cables_second) (I kx_kept_cables_second) 0 0 24)) kx_kept_cables_price (va_cpy (I kx_now_cables_price) (I kx_kept_cables_price) 0 0 24)) kx_kept_cables_firm (va_cpy (I kx_now_cables_firm) (I kx_kept_cables_firm) 0 0 24)) kx_kept_cables_order (va_cpy (I kx_now_cables_order) (I kx_kept_cables_order) 0 0 24)), L, ab_RR, n, nc, ns))) : ab_E w (d + 1) mt_Cables_copy 0 [.ref kx_kept_cables, .ref kx_now_cables] [] (I, L, ab_RR, n, nc, ns) res := by
  refine ab_aload_n (i := 0) d_Cables_copy_0 rfl rfl ?_
  refine ab_aload_n (i := 1) d_Cables_copy_1 rfl rfl ?_
  refine ab_getI (ci := 1) (k := 0) d_Cables_copy_2 v_185 rfl (by decide) (by decide) rfl ?_
  refine ab_putI (ci := 1) (k := 0) d_Cables_copy_5 v_185 rfl (by decide) (by decide) rfl (Or.inl rfl) rfl rfl ?_
  refine ab_aload_n (i := 0) d_Cables_copy_8 rfl rfl ?_
  refine ab_aload_n (i := 1) d_Cables_copy_9 rfl rfl ?_
  refine ab_getI (ci := 1) (k := 1) d_Cables_copy_10 v_192 rfl (by decide) (by decide) rfl ?_
  refine ab_putI (ci := 1) (k := 1) d_Cables_copy_13 v_192 rfl (by decide) (by decide) rfl (Or.inl rfl) rfl rfl ?_
  refine ab_aload_n (i := 0) d_Cables_copy_16 rfl rfl ?_
  refine ab_aload_n (i := 1) d_Cables_copy_17 rfl rfl ?_
  refine ab_getI (ci := 1) (k := 2) d_Cables_copy_18 v_200 rfl (by decide) (by decide) rfl ?_
  refine ab_putI (ci := 1) (k := 2) d_Cables_copy_21 v_200 rfl (by decide) (by decide) rfl (Or.inl rfl) rfl rfl ?_
  refine ab_aload_n (i := 1) d_Cables_copy_24 rfl rfl ?_
  refine ab_getR (ci := 1) (k := 3) (j := kx_now_cables_first) d_Cables_copy_25 v_204 rfl (by decide) (by decide) rfl r_kx_now_cables_3 ?_
  refine ab_iconst (v := 0) d_Cables_copy_28 rfl ?_
  refine ab_aload_n (i := 0) d_Cables_copy_29 rfl rfl ?_
  refine ab_getR (ci := 1) (k := 3) (j := kx_kept_cables_first) d_Cables_copy_30 v_204 rfl (by decide) (by decide) rfl r_kx_kept_cables_3 ?_
  refine ab_iconst (v := 0) d_Cables_copy_33 rfl ?_
  refine ab_bipush (v := 24) d_Cables_copy_34 rfl ?_
  refine ab_copy d_Cables_copy_36 v_675 v_562 v_561 v_161 rfl rfl rfl rfl (by decide) (by decide) (by decide) (by decide) (by decide) (Nat.succ_le_succ (Nat.zero_le _)) (Nat.le_of_ble_eq_true rfl) ?_
  refine ab_aload_n (i := 1) d_Cables_copy_39 rfl rfl ?_
  refine ab_getR (ci := 1) (k := 4) (j := kx_now_cables_second) d_Cables_copy_40 v_211 rfl (by decide) (by decide) rfl r_kx_now_cables_4 ?_
  refine ab_iconst (v := 0) d_Cables_copy_43 rfl ?_
  refine ab_aload_n (i := 0) d_Cables_copy_44 rfl rfl ?_
  refine ab_getR (ci := 1) (k := 4) (j := kx_kept_cables_second) d_Cables_copy_45 v_211 rfl (by decide) (by decide) rfl r_kx_kept_cables_4 ?_
  refine ab_iconst (v := 0) d_Cables_copy_48 rfl ?_
  refine ab_bipush (v := 24) d_Cables_copy_49 rfl ?_
  refine ab_copy d_Cables_copy_51 v_675 v_562 v_561 v_161 rfl rfl rfl rfl (by decide) (by decide) (by decide) (by decide) (by decide) (Nat.succ_le_succ (Nat.zero_le _)) (Nat.le_of_ble_eq_true rfl) ?_
  refine ab_aload_n (i := 1) d_Cables_copy_54 rfl rfl ?_
  refine ab_getR (ci := 1) (k := 5) (j := kx_now_cables_price) d_Cables_copy_55 v_218 rfl (by decide) (by decide) rfl r_kx_now_cables_5 ?_
  refine ab_iconst (v := 0) d_Cables_copy_58 rfl ?_
  refine ab_aload_n (i := 0) d_Cables_copy_59 rfl rfl ?_
  refine ab_getR (ci := 1) (k := 5) (j := kx_kept_cables_price) d_Cables_copy_60 v_218 rfl (by decide) (by decide) rfl r_kx_kept_cables_5 ?_
  refine ab_iconst (v := 0) d_Cables_copy_63 rfl ?_
  refine ab_bipush (v := 24) d_Cables_copy_64 rfl ?_
  refine ab_copy d_Cables_copy_66 v_675 v_562 v_561 v_161 rfl rfl rfl rfl (by decide) (by decide) (by decide) (by decide) (by decide) (Nat.succ_le_succ (Nat.zero_le _)) (Nat.le_of_ble_eq_true rfl) ?_
  refine ab_aload_n (i := 1) d_Cables_copy_69 rfl rfl ?_
  refine ab_getR (ci := 1) (k := 6) (j := kx_now_cables_firm) d_Cables_copy_70 v_226 rfl (by decide) (by decide) rfl r_kx_now_cables_6 ?_
  refine ab_iconst (v := 0) d_Cables_copy_73 rfl ?_
  refine ab_aload_n (i := 0) d_Cables_copy_74 rfl rfl ?_
  refine ab_getR (ci := 1) (k := 6) (j := kx_kept_cables_firm) d_Cables_copy_75 v_226 rfl (by decide) (by decide) rfl r_kx_kept_cables_6 ?_
  refine ab_iconst (v := 0) d_Cables_copy_78 rfl ?_
  refine ab_bipush (v := 24) d_Cables_copy_79 rfl ?_
  refine ab_copy d_Cables_copy_81 v_675 v_562 v_561 v_161 rfl rfl rfl rfl (by decide) (by decide) (by decide) (by decide) (by decide) (Nat.succ_le_succ (Nat.zero_le _)) (Nat.le_of_ble_eq_true rfl) ?_
  refine ab_aload_n (i := 1) d_Cables_copy_84 rfl rfl ?_
  refine ab_getR (ci := 1) (k := 7) (j := kx_now_cables_order) d_Cables_copy_85 v_229 rfl (by decide) (by decide) rfl r_kx_now_cables_7 ?_
  refine ab_iconst (v := 0) d_Cables_copy_88 rfl ?_
  refine ab_aload_n (i := 0) d_Cables_copy_89 rfl rfl ?_
  refine ab_getR (ci := 1) (k := 7) (j := kx_kept_cables_order) d_Cables_copy_90 v_229 rfl (by decide) (by decide) rfl r_kx_kept_cables_7 ?_
  refine ab_iconst (v := 0) d_Cables_copy_93 rfl ?_
  refine ab_bipush (v := 24) d_Cables_copy_94 rfl ?_
  refine ab_copy d_Cables_copy_96 v_675 v_562 v_561 v_161 rfl rfl rfl rfl (by decide) (by decide) (by decide) (by decide) (by decide) (Nat.succ_le_succ (Nat.zero_le _)) (Nat.le_of_ble_eq_true rfl) ?_
  exact ab_vret d_Cables_copy_99 rfl h
theorem r_Swaps_copy_0_0 {w : ab_Wd} {d n nc ns : Nat} {I : Nat → Nat → Int32} {L : Nat → Nat → Int64} {res : ab_Re} (hT : w.1.stackTraces = false)  (hc : nc ≤ res.2.2.2.2.2.1) (hs : ns ≤ res.2.2.2.2.2.2)
    (h : res = (.inl none, ((ab_row (ab_up I kx_kept_swaps 1 (I kx_now_swaps 1)) kx_kept_swaps_rows (va_cpy (I kx_now_swaps_rows) (I kx_kept_swaps_rows) 0 0 1024)), L, ab_RR, n, nc, ns))) : ab_E w (d + 1) mt_Swaps_copy 0 [.ref kx_kept_swaps, .ref kx_now_swaps] [] (I, L, ab_RR, n, nc, ns) res := by
  refine ab_aload_n (i := 0) d_Swaps_copy_0 rfl rfl ?_
  refine ab_aload_n (i := 1) d_Swaps_copy_1 rfl rfl ?_
  refine ab_getI (ci := 7) (k := 1) d_Swaps_copy_2 v_259 rfl (by decide) (by decide) rfl ?_
  refine ab_putI (ci := 7) (k := 1) d_Swaps_copy_5 v_259 rfl (by decide) (by decide) rfl (Or.inl rfl) rfl rfl ?_
  refine ab_aload_n (i := 1) d_Swaps_copy_8 rfl rfl ?_
  refine ab_getR (ci := 7) (k := 0) (j := kx_now_swaps_rows) d_Swaps_copy_9 v_258 rfl (by decide) (by decide) rfl r_kx_now_swaps_0 ?_
  refine ab_iconst (v := 0) d_Swaps_copy_12 rfl ?_
  refine ab_aload_n (i := 0) d_Swaps_copy_13 rfl rfl ?_
  refine ab_getR (ci := 7) (k := 0) (j := kx_kept_swaps_rows) d_Swaps_copy_14 v_258 rfl (by decide) (by decide) rfl r_kx_kept_swaps_0 ?_
  refine ab_iconst (v := 0) d_Swaps_copy_17 rfl ?_
  refine ab_sipush (v := 1024) d_Swaps_copy_18 rfl ?_
  refine ab_copy d_Swaps_copy_21 v_680 v_562 v_561 v_161 rfl rfl rfl rfl (by decide) (by decide) (by decide) (by decide) (by decide) (Nat.succ_le_succ (Nat.zero_le _)) (Nat.le_of_ble_eq_true rfl) ?_
  exact ab_vret d_Swaps_copy_24 rfl h
theorem r_Acts_copy_1_0 {w : ab_Wd} {d n nc ns : Nat} {I : Nat → Nat → Int32} {L : Nat → Nat → Int64} {res : ab_Re} (hT : w.1.stackTraces = false)  (hc : nc ≤ res.2.2.2.2.2.1) (hs : ns ≤ res.2.2.2.2.2.2)
    (h : res = (.inl none, ((ab_up (ab_up (ab_row (ab_row (ab_row (ab_row I kx_now_acts_prices (va_cpy (I kx_kept_acts_prices) (I kx_now_acts_prices) 0 0 960)) kx_now_acts_counts (va_cpy (I kx_kept_acts_counts) (I kx_now_acts_counts) 0 0 40)) kx_now_acts_sounds (va_cpy (I kx_kept_acts_sounds) (I kx_now_acts_sounds) 0 0 40)) kx_now_acts_swaps (va_cpy (I kx_kept_acts_swaps) (I kx_now_acts_swaps) 0 0 40)) kx_now_acts 4 (I kx_kept_acts 4)) kx_now_acts 5 (I kx_kept_acts 5)), L, ab_RR, n, nc, ns))) : ab_E w (d + 1) mt_Acts_copy 0 [.ref kx_now_acts, .ref kx_kept_acts] [] (I, L, ab_RR, n, nc, ns) res := by
  refine ab_aload_n (i := 1) d_Acts_copy_0 rfl rfl ?_
  refine ab_getR (ci := 0) (k := 0) (j := kx_kept_acts_prices) d_Acts_copy_1 v_273 rfl (by decide) (by decide) rfl r_kx_kept_acts_0 ?_
  refine ab_iconst (v := 0) d_Acts_copy_4 rfl ?_
  refine ab_aload_n (i := 0) d_Acts_copy_5 rfl rfl ?_
  refine ab_getR (ci := 0) (k := 0) (j := kx_now_acts_prices) d_Acts_copy_6 v_273 rfl (by decide) (by decide) rfl r_kx_now_acts_0 ?_
  refine ab_iconst (v := 0) d_Acts_copy_9 rfl ?_
  refine ab_aload_n (i := 0) d_Acts_copy_10 rfl rfl ?_
  refine ab_getR (ci := 0) (k := 0) (j := kx_now_acts_prices) d_Acts_copy_11 v_273 rfl (by decide) (by decide) rfl r_kx_now_acts_0 ?_
  refine ab_alen (v := 960) d_Acts_copy_14 (by decide) (by decide) rfl ?_
  refine ab_copy d_Acts_copy_15 v_586 v_562 v_561 v_161 rfl rfl rfl rfl (by decide) (by decide) (by decide) (by decide) (by decide) (Nat.succ_le_succ (Nat.zero_le _)) (Nat.le_of_ble_eq_true rfl) ?_
  refine ab_aload_n (i := 1) d_Acts_copy_18 rfl rfl ?_
  refine ab_getR (ci := 0) (k := 1) (j := kx_kept_acts_counts) d_Acts_copy_19 v_274 rfl (by decide) (by decide) rfl r_kx_kept_acts_1 ?_
  refine ab_iconst (v := 0) d_Acts_copy_22 rfl ?_
  refine ab_aload_n (i := 0) d_Acts_copy_23 rfl rfl ?_
  refine ab_getR (ci := 0) (k := 1) (j := kx_now_acts_counts) d_Acts_copy_24 v_274 rfl (by decide) (by decide) rfl r_kx_now_acts_1 ?_
  refine ab_iconst (v := 0) d_Acts_copy_27 rfl ?_
  refine ab_bipush (v := 40) d_Acts_copy_28 rfl ?_
  refine ab_copy d_Acts_copy_30 v_586 v_562 v_561 v_161 rfl rfl rfl rfl (by decide) (by decide) (by decide) (by decide) (by decide) (Nat.succ_le_succ (Nat.zero_le _)) (Nat.le_of_ble_eq_true rfl) ?_
  refine ab_aload_n (i := 1) d_Acts_copy_33 rfl rfl ?_
  refine ab_getR (ci := 0) (k := 2) (j := kx_kept_acts_sounds) d_Acts_copy_34 v_275 rfl (by decide) (by decide) rfl r_kx_kept_acts_2 ?_
  refine ab_iconst (v := 0) d_Acts_copy_37 rfl ?_
  refine ab_aload_n (i := 0) d_Acts_copy_38 rfl rfl ?_
  refine ab_getR (ci := 0) (k := 2) (j := kx_now_acts_sounds) d_Acts_copy_39 v_275 rfl (by decide) (by decide) rfl r_kx_now_acts_2 ?_
  refine ab_iconst (v := 0) d_Acts_copy_42 rfl ?_
  refine ab_bipush (v := 40) d_Acts_copy_43 rfl ?_
  refine ab_copy d_Acts_copy_45 v_586 v_562 v_561 v_161 rfl rfl rfl rfl (by decide) (by decide) (by decide) (by decide) (by decide) (Nat.succ_le_succ (Nat.zero_le _)) (Nat.le_of_ble_eq_true rfl) ?_
  refine ab_aload_n (i := 1) d_Acts_copy_48 rfl rfl ?_
  refine ab_getR (ci := 0) (k := 3) (j := kx_kept_acts_swaps) d_Acts_copy_49 v_276 rfl (by decide) (by decide) rfl r_kx_kept_acts_3 ?_
  refine ab_iconst (v := 0) d_Acts_copy_52 rfl ?_
  refine ab_aload_n (i := 0) d_Acts_copy_53 rfl rfl ?_
  refine ab_getR (ci := 0) (k := 3) (j := kx_now_acts_swaps) d_Acts_copy_54 v_276 rfl (by decide) (by decide) rfl r_kx_now_acts_3 ?_
  refine ab_iconst (v := 0) d_Acts_copy_57 rfl ?_
  refine ab_bipush (v := 40) d_Acts_copy_58 rfl ?_
  refine ab_copy d_Acts_copy_60 v_586 v_562 v_561 v_161 rfl rfl rfl rfl (by decide) (by decide) (by decide) (by decide) (by decide) (Nat.succ_le_succ (Nat.zero_le _)) (Nat.le_of_ble_eq_true rfl) ?_
  refine ab_aload_n (i := 0) d_Acts_copy_63 rfl rfl ?_
  refine ab_aload_n (i := 1) d_Acts_copy_64 rfl rfl ?_
  refine ab_getI (ci := 0) (k := 4) d_Acts_copy_65 v_277 rfl (by decide) (by decide) rfl ?_
  refine ab_putI (ci := 0) (k := 4) d_Acts_copy_68 v_277 rfl (by decide) (by decide) rfl (Or.inl rfl) rfl rfl ?_
  refine ab_aload_n (i := 0) d_Acts_copy_71 rfl rfl ?_
  refine ab_aload_n (i := 1) d_Acts_copy_72 rfl rfl ?_
  refine ab_getI (ci := 0) (k := 5) d_Acts_copy_73 v_278 rfl (by decide) (by decide) rfl ?_
  refine ab_putI (ci := 0) (k := 5) d_Acts_copy_76 v_278 rfl (by decide) (by decide) rfl (Or.inl rfl) rfl rfl ?_
  exact ab_vret d_Acts_copy_79 rfl h
