theorem d_Likes_enter_0 : decode (ab_bc mt_Likes_enter) 0 = .ok (.aload_n 0, 1) := by decide +kernel
theorem d_Likes_enter_1 : decode (ab_bc mt_Likes_enter) 1 = .ok (.getfield 9, 3) := by decide +kernel
theorem d_Likes_enter_4 : decode (ab_bc mt_Likes_enter) 4 = .ok (.iload_n 1, 1) := by decide +kernel
theorem d_Likes_enter_5 : decode (ab_bc mt_Likes_enter) 5 = .ok (.iaload, 1) := by decide +kernel
theorem d_Likes_enter_6 : decode (ab_bc mt_Likes_enter) 6 = .ok (.istore_n 3, 1) := by decide +kernel
theorem d_Likes_enter_7 : decode (ab_bc mt_Likes_enter) 7 = .ok (.aload_n 0, 1) := by decide +kernel
theorem d_Likes_enter_8 : decode (ab_bc mt_Likes_enter) 8 = .ok (.getfield 9, 3) := by decide +kernel
theorem d_Likes_enter_11 : decode (ab_bc mt_Likes_enter) 11 = .ok (.iload_n 2, 1) := by decide +kernel
theorem d_Likes_enter_12 : decode (ab_bc mt_Likes_enter) 12 = .ok (.iaload, 1) := by decide +kernel
theorem d_Likes_enter_13 : decode (ab_bc mt_Likes_enter) 13 = .ok (.istore 4, 2) := by decide +kernel
theorem d_Likes_enter_15 : decode (ab_bc mt_Likes_enter) 15 = .ok (.iload_n 3, 1) := by decide +kernel
theorem d_Likes_enter_16 : decode (ab_bc mt_Likes_enter) 16 = .ok (.iload 4, 2) := by decide +kernel
theorem d_Likes_enter_18 : decode (ab_bc mt_Likes_enter) 18 = .ok (.if_icmp .ne 4, 3) := by decide +kernel
theorem d_Likes_enter_21 : decode (ab_bc mt_Likes_enter) 21 = .ok (.return_, 1) := by decide +kernel
theorem d_Likes_enter_22 : decode (ab_bc mt_Likes_enter) 22 = .ok (.aload_n 0, 1) := by decide +kernel
theorem d_Likes_enter_23 : decode (ab_bc mt_Likes_enter) 23 = .ok (.getfield 18, 3) := by decide +kernel
theorem d_Likes_enter_26 : decode (ab_bc mt_Likes_enter) 26 = .ok (.iload_n 3, 1) := by decide +kernel
theorem d_Likes_enter_27 : decode (ab_bc mt_Likes_enter) 27 = .ok (.bipush 10, 2) := by decide +kernel
theorem d_Likes_enter_29 : decode (ab_bc mt_Likes_enter) 29 = .ok (.imul, 1) := by decide +kernel
theorem d_Likes_enter_30 : decode (ab_bc mt_Likes_enter) 30 = .ok (.iload_n 3, 1) := by decide +kernel
theorem d_Likes_enter_31 : decode (ab_bc mt_Likes_enter) 31 = .ok (.iadd, 1) := by decide +kernel
theorem d_Likes_enter_32 : decode (ab_bc mt_Likes_enter) 32 = .ok (.dup2, 1) := by decide +kernel
theorem d_Likes_enter_33 : decode (ab_bc mt_Likes_enter) 33 = .ok (.laload, 1) := by decide +kernel
theorem d_Likes_enter_34 : decode (ab_bc mt_Likes_enter) 34 = .ok (.lconst 1, 1) := by decide +kernel
theorem d_Likes_enter_35 : decode (ab_bc mt_Likes_enter) 35 = .ok (.ladd, 1) := by decide +kernel
theorem d_Likes_enter_36 : decode (ab_bc mt_Likes_enter) 36 = .ok (.lastore, 1) := by decide +kernel
theorem d_Likes_enter_37 : decode (ab_bc mt_Likes_enter) 37 = .ok (.aload_n 0, 1) := by decide +kernel
theorem d_Likes_enter_38 : decode (ab_bc mt_Likes_enter) 38 = .ok (.getfield 18, 3) := by decide +kernel
theorem d_Likes_enter_41 : decode (ab_bc mt_Likes_enter) 41 = .ok (.iload 4, 2) := by decide +kernel
theorem d_Likes_enter_43 : decode (ab_bc mt_Likes_enter) 43 = .ok (.bipush 10, 2) := by decide +kernel
theorem d_Likes_enter_45 : decode (ab_bc mt_Likes_enter) 45 = .ok (.imul, 1) := by decide +kernel
theorem d_Likes_enter_46 : decode (ab_bc mt_Likes_enter) 46 = .ok (.iload 4, 2) := by decide +kernel
theorem d_Likes_enter_48 : decode (ab_bc mt_Likes_enter) 48 = .ok (.iadd, 1) := by decide +kernel
theorem d_Likes_enter_49 : decode (ab_bc mt_Likes_enter) 49 = .ok (.dup2, 1) := by decide +kernel
theorem d_Likes_enter_50 : decode (ab_bc mt_Likes_enter) 50 = .ok (.laload, 1) := by decide +kernel
theorem d_Likes_enter_51 : decode (ab_bc mt_Likes_enter) 51 = .ok (.lconst 1, 1) := by decide +kernel
theorem d_Likes_enter_52 : decode (ab_bc mt_Likes_enter) 52 = .ok (.ladd, 1) := by decide +kernel
theorem d_Likes_enter_53 : decode (ab_bc mt_Likes_enter) 53 = .ok (.lastore, 1) := by decide +kernel
theorem d_Likes_enter_54 : decode (ab_bc mt_Likes_enter) 54 = .ok (.aload_n 0, 1) := by decide +kernel
theorem d_Likes_enter_55 : decode (ab_bc mt_Likes_enter) 55 = .ok (.getfield 18, 3) := by decide +kernel
theorem d_Likes_enter_58 : decode (ab_bc mt_Likes_enter) 58 = .ok (.iload_n 3, 1) := by decide +kernel
theorem d_Likes_enter_59 : decode (ab_bc mt_Likes_enter) 59 = .ok (.bipush 10, 2) := by decide +kernel
theorem d_Likes_enter_61 : decode (ab_bc mt_Likes_enter) 61 = .ok (.imul, 1) := by decide +kernel
theorem d_Likes_enter_62 : decode (ab_bc mt_Likes_enter) 62 = .ok (.iload 4, 2) := by decide +kernel
theorem d_Likes_enter_64 : decode (ab_bc mt_Likes_enter) 64 = .ok (.iadd, 1) := by decide +kernel
theorem d_Likes_enter_65 : decode (ab_bc mt_Likes_enter) 65 = .ok (.dup2, 1) := by decide +kernel
theorem d_Likes_enter_66 : decode (ab_bc mt_Likes_enter) 66 = .ok (.laload, 1) := by decide +kernel
theorem d_Likes_enter_67 : decode (ab_bc mt_Likes_enter) 67 = .ok (.lconst 1, 1) := by decide +kernel
theorem d_Likes_enter_68 : decode (ab_bc mt_Likes_enter) 68 = .ok (.lsub, 1) := by decide +kernel
theorem d_Likes_enter_69 : decode (ab_bc mt_Likes_enter) 69 = .ok (.lastore, 1) := by decide +kernel
theorem d_Likes_enter_70 : decode (ab_bc mt_Likes_enter) 70 = .ok (.aload_n 0, 1) := by decide +kernel
theorem d_Likes_enter_71 : decode (ab_bc mt_Likes_enter) 71 = .ok (.getfield 18, 3) := by decide +kernel
theorem d_Likes_enter_74 : decode (ab_bc mt_Likes_enter) 74 = .ok (.iload 4, 2) := by decide +kernel
theorem d_Likes_enter_76 : decode (ab_bc mt_Likes_enter) 76 = .ok (.bipush 10, 2) := by decide +kernel
theorem d_Likes_enter_78 : decode (ab_bc mt_Likes_enter) 78 = .ok (.imul, 1) := by decide +kernel
theorem d_Likes_enter_79 : decode (ab_bc mt_Likes_enter) 79 = .ok (.iload_n 3, 1) := by decide +kernel
theorem d_Likes_enter_80 : decode (ab_bc mt_Likes_enter) 80 = .ok (.iadd, 1) := by decide +kernel
theorem d_Likes_enter_81 : decode (ab_bc mt_Likes_enter) 81 = .ok (.dup2, 1) := by decide +kernel
theorem d_Likes_enter_82 : decode (ab_bc mt_Likes_enter) 82 = .ok (.laload, 1) := by decide +kernel
theorem d_Likes_enter_83 : decode (ab_bc mt_Likes_enter) 83 = .ok (.lconst 1, 1) := by decide +kernel
theorem d_Likes_enter_84 : decode (ab_bc mt_Likes_enter) 84 = .ok (.lsub, 1) := by decide +kernel
theorem d_Likes_enter_85 : decode (ab_bc mt_Likes_enter) 85 = .ok (.lastore, 1) := by decide +kernel
theorem d_Likes_enter_86 : decode (ab_bc mt_Likes_enter) 86 = .ok (.aload_n 0, 1) := by decide +kernel
theorem d_Likes_enter_87 : decode (ab_bc mt_Likes_enter) 87 = .ok (.getfield 15, 3) := by decide +kernel
theorem d_Likes_enter_90 : decode (ab_bc mt_Likes_enter) 90 = .ok (.iload_n 3, 1) := by decide +kernel
theorem d_Likes_enter_91 : decode (ab_bc mt_Likes_enter) 91 = .ok (.iload 4, 2) := by decide +kernel
theorem d_Likes_enter_93 : decode (ab_bc mt_Likes_enter) 93 = .ok (.invokestatic 67, 3) := by decide +kernel
theorem d_Likes_enter_96 : decode (ab_bc mt_Likes_enter) 96 = .ok (.pop, 1) := by decide +kernel
theorem d_Likes_enter_97 : decode (ab_bc mt_Likes_enter) 97 = .ok (.return_, 1) := by decide +kernel
-- CableKeeper$Likes.enter(II)V over kx_likes
theorem q_Likes_enter_0 {w : ab_Wd} {d n nc ns : Nat} {I : Nat → Nat → Int32} {L : Nat → Nat → Int64} {res : ab_Re} (v1 : Int32) (v2 : Int32) (hc : nc ≤ res.2.2.2.2.2.1) (hs : ns ≤ res.2.2.2.2.2.2)
    (h : (vp_in v1 10) ∧ (vp_in v2 10) ∧ ((¬ (I kx_likes_before v1.toNatClampNeg) = (I kx_likes_before v2.toNatClampNeg) → ((vp_in (((I kx_likes_before v1.toNatClampNeg) * 10) + (I kx_likes_before v1.toNatClampNeg)) 100) ∧ (vp_in (((I kx_likes_before v2.toNatClampNeg) * 10) + (I kx_likes_before v2.toNatClampNeg)) 100) ∧ (vp_in (((I kx_likes_before v1.toNatClampNeg) * 10) + (I kx_likes_before v2.toNatClampNeg)) 100) ∧ (vp_in (((I kx_likes_before v2.toNatClampNeg) * 10) + (I kx_likes_before v1.toNatClampNeg)) 100) ∧ ∃ (r8 : Int32) (I9 : Nat → Nat → Int32), ab_C w d mt_K_unite [.ref kx_likes_behind, .int (I kx_likes_before v1.toNatClampNeg), .int (I kx_likes_before v2.toNatClampNeg)] (I, (ab_upL (ab_upL (ab_upL (ab_upL L kx_likes_matrix (((I kx_likes_before v1.toNatClampNeg) * 10) + (I kx_likes_before v1.toNatClampNeg)).toNatClampNeg ((L kx_likes_matrix (((I kx_likes_before v1.toNatClampNeg) * 10) + (I kx_likes_before v1.toNatClampNeg)).toNatClampNeg) + 1)) kx_likes_matrix (((I kx_likes_before v2.toNatClampNeg) * 10) + (I kx_likes_before v2.toNatClampNeg)).toNatClampNeg (((ab_upL L kx_likes_matrix (((I kx_likes_before v1.toNatClampNeg) * 10) + (I kx_likes_before v1.toNatClampNeg)).toNatClampNeg ((L kx_likes_matrix (((I kx_likes_before v1.toNatClampNeg) * 10) + (I kx_likes_before v1.toNatClampNeg)).toNatClampNeg) + 1)) kx_likes_matrix (((I kx_likes_before v2.toNatClampNeg) * 10) + (I kx_likes_before v2.toNatClampNeg)).toNatClampNeg) + 1)) kx_likes_matrix (((I kx_likes_before v1.toNatClampNeg) * 10) + (I kx_likes_before v2.toNatClampNeg)).toNatClampNeg (((ab_upL (ab_upL L kx_likes_matrix (((I kx_likes_before v1.toNatClampNeg) * 10) + (I kx_likes_before v1.toNatClampNeg)).toNatClampNeg ((L kx_likes_matrix (((I kx_likes_before v1.toNatClampNeg) * 10) + (I kx_likes_before v1.toNatClampNeg)).toNatClampNeg) + 1)) kx_likes_matrix (((I kx_likes_before v2.toNatClampNeg) * 10) + (I kx_likes_before v2.toNatClampNeg)).toNatClampNeg (((ab_upL L kx_likes_matrix (((I kx_likes_before v1.toNatClampNeg) * 10) + (I kx_likes_before v1.toNatClampNeg)).toNatClampNeg ((L kx_likes_matrix (((I kx_likes_before v1.toNatClampNeg) * 10) + (I kx_likes_before v1.toNatClampNeg)).toNatClampNeg) + 1)) kx_likes_matrix (((I kx_likes_before v2.toNatClampNeg) * 10) + (I kx_likes_before v2.toNatClampNeg)).toNatClampNeg) + 1)) kx_likes_matrix (((I kx_likes_before v1.toNatClampNeg) * 10) + (I kx_likes_before v2.toNatClampNeg)).toNatClampNeg) - 1)) kx_likes_matrix (((I kx_likes_before v2.toNatClampNeg) * 10) + (I kx_likes_before v1.toNatClampNeg)).toNatClampNeg (((ab_upL (ab_upL (ab_upL L kx_likes_matrix (((I kx_likes_before v1.toNatClampNeg) * 10) + (I kx_likes_before v1.toNatClampNeg)).toNatClampNeg ((L kx_likes_matrix (((I kx_likes_before v1.toNatClampNeg) * 10) + (I kx_likes_before v1.toNatClampNeg)).toNatClampNeg) + 1)) kx_likes_matrix (((I kx_likes_before v2.toNatClampNeg) * 10) + (I kx_likes_before v2.toNatClampNeg)).toNatClampNeg (((ab_upL L kx_likes_matrix (((I kx_likes_before v1.toNatClampNeg) * 10) + (I kx_likes_before v1.toNatClampNeg)).toNatClampNeg ((L kx_likes_matrix (((I kx_likes_before v1.toNatClampNeg) * 10) + (I kx_likes_before v1.toNatClampNeg)).toNatClampNeg) + 1)) kx_likes_matrix (((I kx_likes_before v2.toNatClampNeg) * 10) + (I kx_likes_before v2.toNatClampNeg)).toNatClampNeg) + 1)) kx_likes_matrix (((I kx_likes_before v1.toNatClampNeg) * 10) + (I kx_likes_before v2.toNatClampNeg)).toNatClampNeg (((ab_upL (ab_upL L kx_likes_matrix (((I kx_likes_before v1.toNatClampNeg) * 10) + (I kx_likes_before v1.toNatClampNeg)).toNatClampNeg ((L kx_likes_matrix (((I kx_likes_before v1.toNatClampNeg) * 10) + (I kx_likes_before v1.toNatClampNeg)).toNatClampNeg) + 1)) kx_likes_matrix (((I kx_likes_before v2.toNatClampNeg) * 10) + (I kx_likes_before v2.toNatClampNeg)).toNatClampNeg (((ab_upL L kx_likes_matrix (((I kx_likes_before v1.toNatClampNeg) * 10) + (I kx_likes_before v1.toNatClampNeg)).toNatClampNeg ((L kx_likes_matrix (((I kx_likes_before v1.toNatClampNeg) * 10) + (I kx_likes_before v1.toNatClampNeg)).toNatClampNeg) + 1)) kx_likes_matrix (((I kx_likes_before v2.toNatClampNeg) * 10) + (I kx_likes_before v2.toNatClampNeg)).toNatClampNeg) + 1)) kx_likes_matrix (((I kx_likes_before v1.toNatClampNeg) * 10) + (I kx_likes_before v2.toNatClampNeg)).toNatClampNeg) - 1)) kx_likes_matrix (((I kx_likes_before v2.toNatClampNeg) * 10) + (I kx_likes_before v1.toNatClampNeg)).toNatClampNeg) - 1)), ab_RR, n, nc, ns) (.inl (some (.int r8)), (I9, (ab_upL (ab_upL (ab_upL (ab_upL L kx_likes_matrix (((I kx_likes_before v1.toNatClampNeg) * 10) + (I kx_likes_before v1.toNatClampNeg)).toNatClampNeg ((L kx_likes_matrix (((I kx_likes_before v1.toNatClampNeg) * 10) + (I kx_likes_before v1.toNatClampNeg)).toNatClampNeg) + 1)) kx_likes_matrix (((I kx_likes_before v2.toNatClampNeg) * 10) + (I kx_likes_before v2.toNatClampNeg)).toNatClampNeg (((ab_upL L kx_likes_matrix (((I kx_likes_before v1.toNatClampNeg) * 10) + (I kx_likes_before v1.toNatClampNeg)).toNatClampNeg ((L kx_likes_matrix (((I kx_likes_before v1.toNatClampNeg) * 10) + (I kx_likes_before v1.toNatClampNeg)).toNatClampNeg) + 1)) kx_likes_matrix (((I kx_likes_before v2.toNatClampNeg) * 10) + (I kx_likes_before v2.toNatClampNeg)).toNatClampNeg) + 1)) kx_likes_matrix (((I kx_likes_before v1.toNatClampNeg) * 10) + (I kx_likes_before v2.toNatClampNeg)).toNatClampNeg (((ab_upL (ab_upL L kx_likes_matrix (((I kx_likes_before v1.toNatClampNeg) * 10) + (I kx_likes_before v1.toNatClampNeg)).toNatClampNeg ((L kx_likes_matrix (((I kx_likes_before v1.toNatClampNeg) * 10) + (I kx_likes_before v1.toNatClampNeg)).toNatClampNeg) + 1)) kx_likes_matrix (((I kx_likes_before v2.toNatClampNeg) * 10) + (I kx_likes_before v2.toNatClampNeg)).toNatClampNeg (((ab_upL L kx_likes_matrix (((I kx_likes_before v1.toNatClampNeg) * 10) + (I kx_likes_before v1.toNatClampNeg)).toNatClampNeg ((L kx_likes_matrix (((I kx_likes_before v1.toNatClampNeg) * 10) + (I kx_likes_before v1.toNatClampNeg)).toNatClampNeg) + 1)) kx_likes_matrix (((I kx_likes_before v2.toNatClampNeg) * 10) + (I kx_likes_before v2.toNatClampNeg)).toNatClampNeg) + 1)) kx_likes_matrix (((I kx_likes_before v1.toNatClampNeg) * 10) + (I kx_likes_before v2.toNatClampNeg)).toNatClampNeg) - 1)) kx_likes_matrix (((I kx_likes_before v2.toNatClampNeg) * 10) + (I kx_likes_before v1.toNatClampNeg)).toNatClampNeg (((ab_upL (ab_upL (ab_upL L kx_likes_matrix (((I kx_likes_before v1.toNatClampNeg) * 10) + (I kx_likes_before v1.toNatClampNeg)).toNatClampNeg ((L kx_likes_matrix (((I kx_likes_before v1.toNatClampNeg) * 10) + (I kx_likes_before v1.toNatClampNeg)).toNatClampNeg) + 1)) kx_likes_matrix (((I kx_likes_before v2.toNatClampNeg) * 10) + (I kx_likes_before v2.toNatClampNeg)).toNatClampNeg (((ab_upL L kx_likes_matrix (((I kx_likes_before v1.toNatClampNeg) * 10) + (I kx_likes_before v1.toNatClampNeg)).toNatClampNeg ((L kx_likes_matrix (((I kx_likes_before v1.toNatClampNeg) * 10) + (I kx_likes_before v1.toNatClampNeg)).toNatClampNeg) + 1)) kx_likes_matrix (((I kx_likes_before v2.toNatClampNeg) * 10) + (I kx_likes_before v2.toNatClampNeg)).toNatClampNeg) + 1)) kx_likes_matrix (((I kx_likes_before v1.toNatClampNeg) * 10) + (I kx_likes_before v2.toNatClampNeg)).toNatClampNeg (((ab_upL (ab_upL L kx_likes_matrix (((I kx_likes_before v1.toNatClampNeg) * 10) + (I kx_likes_before v1.toNatClampNeg)).toNatClampNeg ((L kx_likes_matrix (((I kx_likes_before v1.toNatClampNeg) * 10) + (I kx_likes_before v1.toNatClampNeg)).toNatClampNeg) + 1)) kx_likes_matrix (((I kx_likes_before v2.toNatClampNeg) * 10) + (I kx_likes_before v2.toNatClampNeg)).toNatClampNeg (((ab_upL L kx_likes_matrix (((I kx_likes_before v1.toNatClampNeg) * 10) + (I kx_likes_before v1.toNatClampNeg)).toNatClampNeg ((L kx_likes_matrix (((I kx_likes_before v1.toNatClampNeg) * 10) + (I kx_likes_before v1.toNatClampNeg)).toNatClampNeg) + 1)) kx_likes_matrix (((I kx_likes_before v2.toNatClampNeg) * 10) + (I kx_likes_before v2.toNatClampNeg)).toNatClampNeg) + 1)) kx_likes_matrix (((I kx_likes_before v1.toNatClampNeg) * 10) + (I kx_likes_before v2.toNatClampNeg)).toNatClampNeg) - 1)) kx_likes_matrix (((I kx_likes_before v2.toNatClampNeg) * 10) + (I kx_likes_before v1.toNatClampNeg)).toNatClampNeg) - 1)), ab_RR, n, nc, ns)) ∧ res = (.inl none, (I9, (ab_upL (ab_upL (ab_upL (ab_upL L kx_likes_matrix (((I kx_likes_before v1.toNatClampNeg) * 10) + (I kx_likes_before v1.toNatClampNeg)).toNatClampNeg ((L kx_likes_matrix (((I kx_likes_before v1.toNatClampNeg) * 10) + (I kx_likes_before v1.toNatClampNeg)).toNatClampNeg) + 1)) kx_likes_matrix (((I kx_likes_before v2.toNatClampNeg) * 10) + (I kx_likes_before v2.toNatClampNeg)).toNatClampNeg (((ab_upL L kx_likes_matrix (((I kx_likes_before v1.toNatClampNeg) * 10) + (I kx_likes_before v1.toNatClampNeg)).toNatClampNeg ((L kx_likes_matrix (((I kx_likes_before v1.toNatClampNeg) * 10) + (I kx_likes_before v1.toNatClampNeg)).toNatClampNeg) + 1)) kx_likes_matrix (((I kx_likes_before v2.toNatClampNeg) * 10) + (I kx_likes_before v2.toNatClampNeg)).toNatClampNeg) + 1)) kx_likes_matrix (((I kx_likes_before v1.toNatClampNeg) * 10) + (I kx_likes_before v2.toNatClampNeg)).toNatClampNeg (((ab_upL (ab_upL L kx_likes_matrix (((I kx_likes_before v1.toNatClampNeg) * 10) + (I kx_likes_before v1.toNatClampNeg)).toNatClampNeg ((L kx_likes_matrix (((I kx_likes_before v1.toNatClampNeg) * 10) + (I kx_likes_before v1.toNatClampNeg)).toNatClampNeg) + 1)) kx_likes_matrix (((I kx_likes_before v2.toNatClampNeg) * 10) + (I kx_likes_before v2.toNatClampNeg)).toNatClampNeg (((ab_upL L kx_likes_matrix (((I kx_likes_before v1.toNatClampNeg) * 10) + (I kx_likes_before v1.toNatClampNeg)).toNatClampNeg ((L kx_likes_matrix (((I kx_likes_before v1.toNatClampNeg) * 10) + (I kx_likes_before v1.toNatClampNeg)).toNatClampNeg) + 1)) kx_likes_matrix (((I kx_likes_before v2.toNatClampNeg) * 10) + (I kx_likes_before v2.toNatClampNeg)).toNatClampNeg) + 1)) kx_likes_matrix (((I kx_likes_before v1.toNatClampNeg) * 10) + (I kx_likes_before v2.toNatClampNeg)).toNatClampNeg) - 1)) kx_likes_matrix (((I kx_likes_before v2.toNatClampNeg) * 10) + (I kx_likes_before v1.toNatClampNeg)).toNatClampNeg (((ab_upL (ab_upL (ab_upL L kx_likes_matrix (((I kx_likes_before v1.toNatClampNeg) * 10) + (I kx_likes_before v1.toNatClampNeg)).toNatClampNeg ((L kx_likes_matrix (((I kx_likes_before v1.toNatClampNeg) * 10) + (I kx_likes_before v1.toNatClampNeg)).toNatClampNeg) + 1)) kx_likes_matrix (((I kx_likes_before v2.toNatClampNeg) * 10) + (I kx_likes_before v2.toNatClampNeg)).toNatClampNeg (((ab_upL L kx_likes_matrix (((I kx_likes_before v1.toNatClampNeg) * 10) + (I kx_likes_before v1.toNatClampNeg)).toNatClampNeg ((L kx_likes_matrix (((I kx_likes_before v1.toNatClampNeg) * 10) + (I kx_likes_before v1.toNatClampNeg)).toNatClampNeg) + 1)) kx_likes_matrix (((I kx_likes_before v2.toNatClampNeg) * 10) + (I kx_likes_before v2.toNatClampNeg)).toNatClampNeg) + 1)) kx_likes_matrix (((I kx_likes_before v1.toNatClampNeg) * 10) + (I kx_likes_before v2.toNatClampNeg)).toNatClampNeg (((ab_upL (ab_upL L kx_likes_matrix (((I kx_likes_before v1.toNatClampNeg) * 10) + (I kx_likes_before v1.toNatClampNeg)).toNatClampNeg ((L kx_likes_matrix (((I kx_likes_before v1.toNatClampNeg) * 10) + (I kx_likes_before v1.toNatClampNeg)).toNatClampNeg) + 1)) kx_likes_matrix (((I kx_likes_before v2.toNatClampNeg) * 10) + (I kx_likes_before v2.toNatClampNeg)).toNatClampNeg (((ab_upL L kx_likes_matrix (((I kx_likes_before v1.toNatClampNeg) * 10) + (I kx_likes_before v1.toNatClampNeg)).toNatClampNeg ((L kx_likes_matrix (((I kx_likes_before v1.toNatClampNeg) * 10) + (I kx_likes_before v1.toNatClampNeg)).toNatClampNeg) + 1)) kx_likes_matrix (((I kx_likes_before v2.toNatClampNeg) * 10) + (I kx_likes_before v2.toNatClampNeg)).toNatClampNeg) + 1)) kx_likes_matrix (((I kx_likes_before v1.toNatClampNeg) * 10) + (I kx_likes_before v2.toNatClampNeg)).toNatClampNeg) - 1)) kx_likes_matrix (((I kx_likes_before v2.toNatClampNeg) * 10) + (I kx_likes_before v1.toNatClampNeg)).toNatClampNeg) - 1)), ab_RR, n, nc, ns)))) ∧ ((I kx_likes_before v1.toNatClampNeg) = (I kx_likes_before v2.toNatClampNeg) → (res = (.inl none, (I, L, ab_RR, n, nc, ns)))))) : ab_E w (d + 1) mt_Likes_enter 0 [.ref kx_likes, .int v1, .int v2, .null, .null] [] (I, L, ab_RR, n, nc, ns) res := by
  refine ab_aload_n (i := 0) d_Likes_enter_0 rfl rfl ?_
  refine ab_getR (ci := 3) (k := 0) (j := kx_likes_before) d_Likes_enter_1 v_407 rfl (by decide) (by decide) rfl r_kx_likes_0 ?_
  refine ab_iload_n (i := 1) d_Likes_enter_4 rfl rfl ?_
  have g1 := h.1; have h := h.2
  refine ab_iald d_Likes_enter_5 rfl rfl g1 ?_
  refine ab_istore_n (i := 3) d_Likes_enter_6 rfl (by decide) (Or.inr rfl) ?_
  refine ab_aload_n (i := 0) d_Likes_enter_7 rfl rfl ?_
  refine ab_getR (ci := 3) (k := 0) (j := kx_likes_before) d_Likes_enter_8 v_407 rfl (by decide) (by decide) rfl r_kx_likes_0 ?_
  refine ab_iload_n (i := 2) d_Likes_enter_11 rfl rfl ?_
  have g2 := h.1; have h := h.2
  refine ab_iald d_Likes_enter_12 rfl rfl g2 ?_
  refine ab_istore (i := 4) d_Likes_enter_13 (by decide) (Or.inr rfl) ?_
  refine ab_iload_n (i := 3) d_Likes_enter_15 rfl rfl ?_
  refine ab_iload (i := 4) d_Likes_enter_16 rfl ?_
  refine ab_icmp_ne (tgt := 22) d_Likes_enter_18 (by decide) (fun c3 => ?_) (fun c3 => ?_)
  · have h := h.1 c3
    refine ab_aload_n (i := 0) d_Likes_enter_22 rfl rfl ?_
    refine ab_getR (ci := 3) (k := 2) (j := kx_likes_matrix) d_Likes_enter_23 v_409 rfl (by decide) (by decide) rfl r_kx_likes_2 ?_
    refine ab_iload_n (i := 3) d_Likes_enter_26 rfl rfl ?_
    refine ab_bipush (v := 10) d_Likes_enter_27 rfl ?_
    refine ab_imul d_Likes_enter_29 ?_
    refine ab_iload_n (i := 3) d_Likes_enter_30 rfl rfl ?_
    refine ab_iadd d_Likes_enter_31 ?_
    refine ab_dup2 d_Likes_enter_32 ?_
    have g4 := h.1; have h := h.2
    refine ab_lald d_Likes_enter_33 rfl rfl g4 ?_
    refine ab_lconst (v := 1) d_Likes_enter_34 rfl ?_
    refine ab_ladd d_Likes_enter_35 ?_
    refine ab_last d_Likes_enter_36 rfl rfl g4 ?_
    refine ab_aload_n (i := 0) d_Likes_enter_37 rfl rfl ?_
    refine ab_getR (ci := 3) (k := 2) (j := kx_likes_matrix) d_Likes_enter_38 v_409 rfl (by decide) (by decide) rfl r_kx_likes_2 ?_
    refine ab_iload (i := 4) d_Likes_enter_41 rfl ?_
    refine ab_bipush (v := 10) d_Likes_enter_43 rfl ?_
    refine ab_imul d_Likes_enter_45 ?_
    refine ab_iload (i := 4) d_Likes_enter_46 rfl ?_
    refine ab_iadd d_Likes_enter_48 ?_
    refine ab_dup2 d_Likes_enter_49 ?_
    have g5 := h.1; have h := h.2
    refine ab_lald d_Likes_enter_50 rfl rfl g5 ?_
    refine ab_lconst (v := 1) d_Likes_enter_51 rfl ?_
    refine ab_ladd d_Likes_enter_52 ?_
    refine ab_last d_Likes_enter_53 rfl rfl g5 ?_
    refine ab_aload_n (i := 0) d_Likes_enter_54 rfl rfl ?_
    refine ab_getR (ci := 3) (k := 2) (j := kx_likes_matrix) d_Likes_enter_55 v_409 rfl (by decide) (by decide) rfl r_kx_likes_2 ?_
    refine ab_iload_n (i := 3) d_Likes_enter_58 rfl rfl ?_
    refine ab_bipush (v := 10) d_Likes_enter_59 rfl ?_
    refine ab_imul d_Likes_enter_61 ?_
    refine ab_iload (i := 4) d_Likes_enter_62 rfl ?_
    refine ab_iadd d_Likes_enter_64 ?_
    refine ab_dup2 d_Likes_enter_65 ?_
    have g6 := h.1; have h := h.2
    refine ab_lald d_Likes_enter_66 rfl rfl g6 ?_
    refine ab_lconst (v := 1) d_Likes_enter_67 rfl ?_
    refine ab_lsub d_Likes_enter_68 ?_
    refine ab_last d_Likes_enter_69 rfl rfl g6 ?_
    refine ab_aload_n (i := 0) d_Likes_enter_70 rfl rfl ?_
    refine ab_getR (ci := 3) (k := 2) (j := kx_likes_matrix) d_Likes_enter_71 v_409 rfl (by decide) (by decide) rfl r_kx_likes_2 ?_
    refine ab_iload (i := 4) d_Likes_enter_74 rfl ?_
    refine ab_bipush (v := 10) d_Likes_enter_76 rfl ?_
    refine ab_imul d_Likes_enter_78 ?_
    refine ab_iload_n (i := 3) d_Likes_enter_79 rfl rfl ?_
    refine ab_iadd d_Likes_enter_80 ?_
    refine ab_dup2 d_Likes_enter_81 ?_
    have g7 := h.1; have h := h.2
    refine ab_lald d_Likes_enter_82 rfl rfl g7 ?_
    refine ab_lconst (v := 1) d_Likes_enter_83 rfl ?_
    refine ab_lsub d_Likes_enter_84 ?_
    refine ab_last d_Likes_enter_85 rfl rfl g7 ?_
    refine ab_aload_n (i := 0) d_Likes_enter_86 rfl rfl ?_
    refine ab_getR (ci := 3) (k := 1) (j := kx_likes_behind) d_Likes_enter_87 v_408 rfl (by decide) (by decide) rfl r_kx_likes_1 ?_
    refine ab_iload_n (i := 3) d_Likes_enter_90 rfl rfl ?_
    refine ab_iload (i := 4) d_Likes_enter_91 rfl ?_
    obtain ⟨r8, I9, hC, h⟩ := h
    refine ab_callS (me2 := mt_K_unite) (as := [.ref kx_likes_behind, .int (I kx_likes_before v1.toNatClampNeg), .int (I kx_likes_before v2.toNatClampNeg)]) (st := []) (rv := (some (.int r8))) (M2 := (I9, (ab_upL (ab_upL (ab_upL (ab_upL L kx_likes_matrix (((I kx_likes_before v1.toNatClampNeg) * 10) + (I kx_likes_before v1.toNatClampNeg)).toNatClampNeg ((L kx_likes_matrix (((I kx_likes_before v1.toNatClampNeg) * 10) + (I kx_likes_before v1.toNatClampNeg)).toNatClampNeg) + 1)) kx_likes_matrix (((I kx_likes_before v2.toNatClampNeg) * 10) + (I kx_likes_before v2.toNatClampNeg)).toNatClampNeg (((ab_upL L kx_likes_matrix (((I kx_likes_before v1.toNatClampNeg) * 10) + (I kx_likes_before v1.toNatClampNeg)).toNatClampNeg ((L kx_likes_matrix (((I kx_likes_before v1.toNatClampNeg) * 10) + (I kx_likes_before v1.toNatClampNeg)).toNatClampNeg) + 1)) kx_likes_matrix (((I kx_likes_before v2.toNatClampNeg) * 10) + (I kx_likes_before v2.toNatClampNeg)).toNatClampNeg) + 1)) kx_likes_matrix (((I kx_likes_before v1.toNatClampNeg) * 10) + (I kx_likes_before v2.toNatClampNeg)).toNatClampNeg (((ab_upL (ab_upL L kx_likes_matrix (((I kx_likes_before v1.toNatClampNeg) * 10) + (I kx_likes_before v1.toNatClampNeg)).toNatClampNeg ((L kx_likes_matrix (((I kx_likes_before v1.toNatClampNeg) * 10) + (I kx_likes_before v1.toNatClampNeg)).toNatClampNeg) + 1)) kx_likes_matrix (((I kx_likes_before v2.toNatClampNeg) * 10) + (I kx_likes_before v2.toNatClampNeg)).toNatClampNeg (((ab_upL L kx_likes_matrix (((I kx_likes_before v1.toNatClampNeg) * 10) + (I kx_likes_before v1.toNatClampNeg)).toNatClampNeg ((L kx_likes_matrix (((I kx_likes_before v1.toNatClampNeg) * 10) + (I kx_likes_before v1.toNatClampNeg)).toNatClampNeg) + 1)) kx_likes_matrix (((I kx_likes_before v2.toNatClampNeg) * 10) + (I kx_likes_before v2.toNatClampNeg)).toNatClampNeg) + 1)) kx_likes_matrix (((I kx_likes_before v1.toNatClampNeg) * 10) + (I kx_likes_before v2.toNatClampNeg)).toNatClampNeg) - 1)) kx_likes_matrix (((I kx_likes_before v2.toNatClampNeg) * 10) + (I kx_likes_before v1.toNatClampNeg)).toNatClampNeg (((ab_upL (ab_upL (ab_upL L kx_likes_matrix (((I kx_likes_before v1.toNatClampNeg) * 10) + (I kx_likes_before v1.toNatClampNeg)).toNatClampNeg ((L kx_likes_matrix (((I kx_likes_before v1.toNatClampNeg) * 10) + (I kx_likes_before v1.toNatClampNeg)).toNatClampNeg) + 1)) kx_likes_matrix (((I kx_likes_before v2.toNatClampNeg) * 10) + (I kx_likes_before v2.toNatClampNeg)).toNatClampNeg (((ab_upL L kx_likes_matrix (((I kx_likes_before v1.toNatClampNeg) * 10) + (I kx_likes_before v1.toNatClampNeg)).toNatClampNeg ((L kx_likes_matrix (((I kx_likes_before v1.toNatClampNeg) * 10) + (I kx_likes_before v1.toNatClampNeg)).toNatClampNeg) + 1)) kx_likes_matrix (((I kx_likes_before v2.toNatClampNeg) * 10) + (I kx_likes_before v2.toNatClampNeg)).toNatClampNeg) + 1)) kx_likes_matrix (((I kx_likes_before v1.toNatClampNeg) * 10) + (I kx_likes_before v2.toNatClampNeg)).toNatClampNeg (((ab_upL (ab_upL L kx_likes_matrix (((I kx_likes_before v1.toNatClampNeg) * 10) + (I kx_likes_before v1.toNatClampNeg)).toNatClampNeg ((L kx_likes_matrix (((I kx_likes_before v1.toNatClampNeg) * 10) + (I kx_likes_before v1.toNatClampNeg)).toNatClampNeg) + 1)) kx_likes_matrix (((I kx_likes_before v2.toNatClampNeg) * 10) + (I kx_likes_before v2.toNatClampNeg)).toNatClampNeg (((ab_upL L kx_likes_matrix (((I kx_likes_before v1.toNatClampNeg) * 10) + (I kx_likes_before v1.toNatClampNeg)).toNatClampNeg ((L kx_likes_matrix (((I kx_likes_before v1.toNatClampNeg) * 10) + (I kx_likes_before v1.toNatClampNeg)).toNatClampNeg) + 1)) kx_likes_matrix (((I kx_likes_before v2.toNatClampNeg) * 10) + (I kx_likes_before v2.toNatClampNeg)).toNatClampNeg) + 1)) kx_likes_matrix (((I kx_likes_before v1.toNatClampNeg) * 10) + (I kx_likes_before v2.toNatClampNeg)).toNatClampNeg) - 1)) kx_likes_matrix (((I kx_likes_before v2.toNatClampNeg) * 10) + (I kx_likes_before v1.toNatClampNeg)).toNatClampNeg) - 1)), ab_RR, n, nc, ns)) d_Likes_enter_93 ce_K_unite ⟨v_445, Or.inr ⟨_, u_547⟩⟩ (Nat.le_of_ble_eq_true rfl) hC (Nat.le_refl _) (Nat.le_refl _) hc hs (fun j h9 => by cases h9) (fun _ _ => rfl) ?_
    show ab_E w (d + 1) mt_Likes_enter 96 [.ref kx_likes, .int v1, .int v2, .int (I kx_likes_before v1.toNatClampNeg), .int (I kx_likes_before v2.toNatClampNeg)] [.int r8] (I9, (ab_upL (ab_upL (ab_upL (ab_upL L kx_likes_matrix (((I kx_likes_before v1.toNatClampNeg) * 10) + (I kx_likes_before v1.toNatClampNeg)).toNatClampNeg ((L kx_likes_matrix (((I kx_likes_before v1.toNatClampNeg) * 10) + (I kx_likes_before v1.toNatClampNeg)).toNatClampNeg) + 1)) kx_likes_matrix (((I kx_likes_before v2.toNatClampNeg) * 10) + (I kx_likes_before v2.toNatClampNeg)).toNatClampNeg (((ab_upL L kx_likes_matrix (((I kx_likes_before v1.toNatClampNeg) * 10) + (I kx_likes_before v1.toNatClampNeg)).toNatClampNeg ((L kx_likes_matrix (((I kx_likes_before v1.toNatClampNeg) * 10) + (I kx_likes_before v1.toNatClampNeg)).toNatClampNeg) + 1)) kx_likes_matrix (((I kx_likes_before v2.toNatClampNeg) * 10) + (I kx_likes_before v2.toNatClampNeg)).toNatClampNeg) + 1)) kx_likes_matrix (((I kx_likes_before v1.toNatClampNeg) * 10) + (I kx_likes_before v2.toNatClampNeg)).toNatClampNeg (((ab_upL (ab_upL L kx_likes_matrix (((I kx_likes_before v1.toNatClampNeg) * 10) + (I kx_likes_before v1.toNatClampNeg)).toNatClampNeg ((L kx_likes_matrix (((I kx_likes_before v1.toNatClampNeg) * 10) + (I kx_likes_before v1.toNatClampNeg)).toNatClampNeg) + 1)) kx_likes_matrix (((I kx_likes_before v2.toNatClampNeg) * 10) + (I kx_likes_before v2.toNatClampNeg)).toNatClampNeg (((ab_upL L kx_likes_matrix (((I kx_likes_before v1.toNatClampNeg) * 10) + (I kx_likes_before v1.toNatClampNeg)).toNatClampNeg ((L kx_likes_matrix (((I kx_likes_before v1.toNatClampNeg) * 10) + (I kx_likes_before v1.toNatClampNeg)).toNatClampNeg) + 1)) kx_likes_matrix (((I kx_likes_before v2.toNatClampNeg) * 10) + (I kx_likes_before v2.toNatClampNeg)).toNatClampNeg) + 1)) kx_likes_matrix (((I kx_likes_before v1.toNatClampNeg) * 10) + (I kx_likes_before v2.toNatClampNeg)).toNatClampNeg) - 1)) kx_likes_matrix (((I kx_likes_before v2.toNatClampNeg) * 10) + (I kx_likes_before v1.toNatClampNeg)).toNatClampNeg (((ab_upL (ab_upL (ab_upL L kx_likes_matrix (((I kx_likes_before v1.toNatClampNeg) * 10) + (I kx_likes_before v1.toNatClampNeg)).toNatClampNeg ((L kx_likes_matrix (((I kx_likes_before v1.toNatClampNeg) * 10) + (I kx_likes_before v1.toNatClampNeg)).toNatClampNeg) + 1)) kx_likes_matrix (((I kx_likes_before v2.toNatClampNeg) * 10) + (I kx_likes_before v2.toNatClampNeg)).toNatClampNeg (((ab_upL L kx_likes_matrix (((I kx_likes_before v1.toNatClampNeg) * 10) + (I kx_likes_before v1.toNatClampNeg)).toNatClampNeg ((L kx_likes_matrix (((I kx_likes_before v1.toNatClampNeg) * 10) + (I kx_likes_before v1.toNatClampNeg)).toNatClampNeg) + 1)) kx_likes_matrix (((I kx_likes_before v2.toNatClampNeg) * 10) + (I kx_likes_before v2.toNatClampNeg)).toNatClampNeg) + 1)) kx_likes_matrix (((I kx_likes_before v1.toNatClampNeg) * 10) + (I kx_likes_before v2.toNatClampNeg)).toNatClampNeg (((ab_upL (ab_upL L kx_likes_matrix (((I kx_likes_before v1.toNatClampNeg) * 10) + (I kx_likes_before v1.toNatClampNeg)).toNatClampNeg ((L kx_likes_matrix (((I kx_likes_before v1.toNatClampNeg) * 10) + (I kx_likes_before v1.toNatClampNeg)).toNatClampNeg) + 1)) kx_likes_matrix (((I kx_likes_before v2.toNatClampNeg) * 10) + (I kx_likes_before v2.toNatClampNeg)).toNatClampNeg (((ab_upL L kx_likes_matrix (((I kx_likes_before v1.toNatClampNeg) * 10) + (I kx_likes_before v1.toNatClampNeg)).toNatClampNeg ((L kx_likes_matrix (((I kx_likes_before v1.toNatClampNeg) * 10) + (I kx_likes_before v1.toNatClampNeg)).toNatClampNeg) + 1)) kx_likes_matrix (((I kx_likes_before v2.toNatClampNeg) * 10) + (I kx_likes_before v2.toNatClampNeg)).toNatClampNeg) + 1)) kx_likes_matrix (((I kx_likes_before v1.toNatClampNeg) * 10) + (I kx_likes_before v2.toNatClampNeg)).toNatClampNeg) - 1)) kx_likes_matrix (((I kx_likes_before v2.toNatClampNeg) * 10) + (I kx_likes_before v1.toNatClampNeg)).toNatClampNeg) - 1)), ab_RR, n, nc, ns) res
    refine ab_popi d_Likes_enter_96 ?_
    exact ab_vret d_Likes_enter_97 rfl h
  · have h := h.2 c3
    exact ab_vret d_Likes_enter_21 rfl h
theorem d_Likes_passPrice_0 : decode (ab_bc mt_Likes_passPrice) 0 = .ok (.aload_n 0, 1) := by decide +kernel
theorem d_Likes_passPrice_1 : decode (ab_bc mt_Likes_passPrice) 1 = .ok (.getfield 15, 3) := by decide +kernel
theorem d_Likes_passPrice_4 : decode (ab_bc mt_Likes_passPrice) 4 = .ok (.iconst 0, 1) := by decide +kernel
theorem d_Likes_passPrice_5 : decode (ab_bc mt_Likes_passPrice) 5 = .ok (.aload_n 0, 1) := by decide +kernel
theorem d_Likes_passPrice_6 : decode (ab_bc mt_Likes_passPrice) 6 = .ok (.getfield 9, 3) := by decide +kernel
theorem d_Likes_passPrice_9 : decode (ab_bc mt_Likes_passPrice) 9 = .ok (.iconst 0, 1) := by decide +kernel
theorem d_Likes_passPrice_10 : decode (ab_bc mt_Likes_passPrice) 10 = .ok (.bipush 10, 2) := by decide +kernel
theorem d_Likes_passPrice_12 : decode (ab_bc mt_Likes_passPrice) 12 = .ok (.invokestatic 61, 3) := by decide +kernel
theorem d_Likes_passPrice_15 : decode (ab_bc mt_Likes_passPrice) 15 = .ok (.aload_n 0, 1) := by decide +kernel
theorem d_Likes_passPrice_16 : decode (ab_bc mt_Likes_passPrice) 16 = .ok (.invokevirtual 25, 3) := by decide +kernel
theorem d_Likes_passPrice_19 : decode (ab_bc mt_Likes_passPrice) 19 = .ok (.return_, 1) := by decide +kernel
-- CableKeeper$Likes.passPrice()V over kx_likes
theorem q_Likes_passPrice_0 {w : ab_Wd} {d n nc ns : Nat} {I : Nat → Nat → Int32} {L : Nat → Nat → Int64} {res : ab_Re}  (hc : nc ≤ res.2.2.2.2.2.1) (hs : ns ≤ res.2.2.2.2.2.2)
    (h : ∃ (L2 : Nat → Nat → Int64), ab_C w d mt_Likes_clearMatrix [.ref kx_likes] ((ab_row I kx_likes_before (va_cpy (I kx_likes_behind) (I kx_likes_before) 0 0 10)), L, ab_RR, n, nc, ns) (.inl none, ((ab_row I kx_likes_before (va_cpy (I kx_likes_behind) (I kx_likes_before) 0 0 10)), L2, ab_RR, n, nc, ns)) ∧ res = (.inl none, ((ab_row I kx_likes_before (va_cpy (I kx_likes_behind) (I kx_likes_before) 0 0 10)), L2, ab_RR, n, nc, ns))) : ab_E w (d + 1) mt_Likes_passPrice 0 [.ref kx_likes] [] (I, L, ab_RR, n, nc, ns) res := by
  refine ab_aload_n (i := 0) d_Likes_passPrice_0 rfl rfl ?_
  refine ab_getR (ci := 3) (k := 1) (j := kx_likes_behind) d_Likes_passPrice_1 v_408 rfl (by decide) (by decide) rfl r_kx_likes_1 ?_
  refine ab_iconst (v := 0) d_Likes_passPrice_4 rfl ?_
  refine ab_aload_n (i := 0) d_Likes_passPrice_5 rfl rfl ?_
  refine ab_getR (ci := 3) (k := 0) (j := kx_likes_before) d_Likes_passPrice_6 v_407 rfl (by decide) (by decide) rfl r_kx_likes_0 ?_
  refine ab_iconst (v := 0) d_Likes_passPrice_9 rfl ?_
  refine ab_bipush (v := 10) d_Likes_passPrice_10 rfl ?_
  refine ab_copy d_Likes_passPrice_12 v_560 v_562 v_561 v_161 rfl rfl rfl rfl (by decide) (by decide) (by decide) (by decide) (by decide) (Nat.succ_le_succ (Nat.zero_le _)) (Nat.le_of_ble_eq_true rfl) ?_
  refine ab_aload_n (i := 0) d_Likes_passPrice_15 rfl rfl ?_
  obtain ⟨L2, hC, h⟩ := h
  refine ab_callV (me2 := mt_Likes_clearMatrix) (b := kx_likes) (as := []) (st := []) (rv := none) (M2 := ((ab_row I kx_likes_before (va_cpy (I kx_likes_behind) (I kx_likes_before) 0 0 10)), L2, ab_RR, n, nc, ns)) d_Likes_passPrice_16 ce_Likes_clearMatrix v_535 v_537 v_5 (by decide) rfl (Nat.le_of_ble_eq_true rfl) hC (Nat.le_refl _) (Nat.le_refl _) hc hs (fun j h9 => by cases h9) (fun _ _ => rfl) ?_
  show ab_E w (d + 1) mt_Likes_passPrice 19 [.ref kx_likes] [] ((ab_row I kx_likes_before (va_cpy (I kx_likes_behind) (I kx_likes_before) 0 0 10)), L2, ab_RR, n, nc, ns) res
  exact ab_vret d_Likes_passPrice_19 rfl h
theorem d_Likes_eliminate_0 : decode (ab_bc mt_Likes_eliminate) 0 = .ok (.lload_n 3, 1) := by decide +kernel
theorem d_Likes_eliminate_1 : decode (ab_bc mt_Likes_eliminate) 1 = .ok (.lconst 0, 1) := by decide +kernel
theorem d_Likes_eliminate_2 : decode (ab_bc mt_Likes_eliminate) 2 = .ok (.lcmp, 1) := by decide +kernel
theorem d_Likes_eliminate_3 : decode (ab_bc mt_Likes_eliminate) 3 = .ok (.ifCond .ne 4, 3) := by decide +kernel
theorem d_Likes_eliminate_6 : decode (ab_bc mt_Likes_eliminate) 6 = .ok (.return_, 1) := by decide +kernel
theorem d_Likes_eliminate_7 : decode (ab_bc mt_Likes_eliminate) 7 = .ok (.aload_n 0, 1) := by decide +kernel
theorem d_Likes_eliminate_8 : decode (ab_bc mt_Likes_eliminate) 8 = .ok (.getfield 22, 3) := by decide +kernel
theorem d_Likes_eliminate_11 : decode (ab_bc mt_Likes_eliminate) 11 = .ok (.iload_n 1, 1) := by decide +kernel
theorem d_Likes_eliminate_12 : decode (ab_bc mt_Likes_eliminate) 12 = .ok (.iaload, 1) := by decide +kernel
theorem d_Likes_eliminate_13 : decode (ab_bc mt_Likes_eliminate) 13 = .ok (.istore 5, 2) := by decide +kernel
theorem d_Likes_eliminate_15 : decode (ab_bc mt_Likes_eliminate) 15 = .ok (.iload_n 1, 1) := by decide +kernel
theorem d_Likes_eliminate_16 : decode (ab_bc mt_Likes_eliminate) 16 = .ok (.iconst 1, 1) := by decide +kernel
theorem d_Likes_eliminate_17 : decode (ab_bc mt_Likes_eliminate) 17 = .ok (.iadd, 1) := by decide +kernel
theorem d_Likes_eliminate_18 : decode (ab_bc mt_Likes_eliminate) 18 = .ok (.istore 6, 2) := by decide +kernel
theorem d_Likes_eliminate_20 : decode (ab_bc mt_Likes_eliminate) 20 = .ok (.iload 6, 2) := by decide +kernel
theorem d_Likes_eliminate_22 : decode (ab_bc mt_Likes_eliminate) 22 = .ok (.iload_n 2, 1) := by decide +kernel
theorem d_Likes_eliminate_23 : decode (ab_bc mt_Likes_eliminate) 23 = .ok (.if_icmp .ge 122, 3) := by decide +kernel
theorem d_Likes_eliminate_26 : decode (ab_bc mt_Likes_eliminate) 26 = .ok (.aload_n 0, 1) := by decide +kernel
theorem d_Likes_eliminate_27 : decode (ab_bc mt_Likes_eliminate) 27 = .ok (.getfield 22, 3) := by decide +kernel
theorem d_Likes_eliminate_30 : decode (ab_bc mt_Likes_eliminate) 30 = .ok (.iload 6, 2) := by decide +kernel
theorem d_Likes_eliminate_32 : decode (ab_bc mt_Likes_eliminate) 32 = .ok (.iaload, 1) := by decide +kernel
theorem d_Likes_eliminate_33 : decode (ab_bc mt_Likes_eliminate) 33 = .ok (.bipush 10, 2) := by decide +kernel
theorem d_Likes_eliminate_35 : decode (ab_bc mt_Likes_eliminate) 35 = .ok (.imul, 1) := by decide +kernel
theorem d_Likes_eliminate_36 : decode (ab_bc mt_Likes_eliminate) 36 = .ok (.istore 7, 2) := by decide +kernel
theorem d_Likes_eliminate_38 : decode (ab_bc mt_Likes_eliminate) 38 = .ok (.iload_n 1, 1) := by decide +kernel
theorem d_Likes_eliminate_39 : decode (ab_bc mt_Likes_eliminate) 39 = .ok (.iconst 1, 1) := by decide +kernel
theorem d_Likes_eliminate_40 : decode (ab_bc mt_Likes_eliminate) 40 = .ok (.iadd, 1) := by decide +kernel
theorem d_Likes_eliminate_41 : decode (ab_bc mt_Likes_eliminate) 41 = .ok (.istore 8, 2) := by decide +kernel
theorem d_Likes_eliminate_43 : decode (ab_bc mt_Likes_eliminate) 43 = .ok (.iload 8, 2) := by decide +kernel
theorem d_Likes_eliminate_45 : decode (ab_bc mt_Likes_eliminate) 45 = .ok (.iload_n 2, 1) := by decide +kernel
theorem d_Likes_eliminate_46 : decode (ab_bc mt_Likes_eliminate) 46 = .ok (.if_icmp .ge 93, 3) := by decide +kernel
theorem d_Likes_eliminate_49 : decode (ab_bc mt_Likes_eliminate) 49 = .ok (.aload_n 0, 1) := by decide +kernel
theorem d_Likes_eliminate_50 : decode (ab_bc mt_Likes_eliminate) 50 = .ok (.getfield 18, 3) := by decide +kernel
theorem d_Likes_eliminate_53 : decode (ab_bc mt_Likes_eliminate) 53 = .ok (.iload 7, 2) := by decide +kernel
theorem d_Likes_eliminate_55 : decode (ab_bc mt_Likes_eliminate) 55 = .ok (.aload_n 0, 1) := by decide +kernel
theorem d_Likes_eliminate_56 : decode (ab_bc mt_Likes_eliminate) 56 = .ok (.getfield 22, 3) := by decide +kernel
theorem d_Likes_eliminate_59 : decode (ab_bc mt_Likes_eliminate) 59 = .ok (.iload 8, 2) := by decide +kernel
theorem d_Likes_eliminate_61 : decode (ab_bc mt_Likes_eliminate) 61 = .ok (.iaload, 1) := by decide +kernel
theorem d_Likes_eliminate_62 : decode (ab_bc mt_Likes_eliminate) 62 = .ok (.iadd, 1) := by decide +kernel
theorem d_Likes_eliminate_63 : decode (ab_bc mt_Likes_eliminate) 63 = .ok (.laload, 1) := by decide +kernel
theorem d_Likes_eliminate_64 : decode (ab_bc mt_Likes_eliminate) 64 = .ok (.aload_n 0, 1) := by decide +kernel
theorem d_Likes_eliminate_65 : decode (ab_bc mt_Likes_eliminate) 65 = .ok (.getfield 18, 3) := by decide +kernel
theorem d_Likes_eliminate_68 : decode (ab_bc mt_Likes_eliminate) 68 = .ok (.iload 5, 2) := by decide +kernel
theorem d_Likes_eliminate_70 : decode (ab_bc mt_Likes_eliminate) 70 = .ok (.bipush 10, 2) := by decide +kernel
theorem d_Likes_eliminate_72 : decode (ab_bc mt_Likes_eliminate) 72 = .ok (.imul, 1) := by decide +kernel
theorem d_Likes_eliminate_73 : decode (ab_bc mt_Likes_eliminate) 73 = .ok (.iload 5, 2) := by decide +kernel
theorem d_Likes_eliminate_75 : decode (ab_bc mt_Likes_eliminate) 75 = .ok (.iadd, 1) := by decide +kernel
theorem d_Likes_eliminate_76 : decode (ab_bc mt_Likes_eliminate) 76 = .ok (.laload, 1) := by decide +kernel
theorem d_Likes_eliminate_77 : decode (ab_bc mt_Likes_eliminate) 77 = .ok (.lmul, 1) := by decide +kernel
theorem d_Likes_eliminate_78 : decode (ab_bc mt_Likes_eliminate) 78 = .ok (.lstore 9, 2) := by decide +kernel
theorem d_Likes_eliminate_80 : decode (ab_bc mt_Likes_eliminate) 80 = .ok (.aload_n 0, 1) := by decide +kernel
theorem d_Likes_eliminate_81 : decode (ab_bc mt_Likes_eliminate) 81 = .ok (.getfield 18, 3) := by decide +kernel
theorem d_Likes_eliminate_84 : decode (ab_bc mt_Likes_eliminate) 84 = .ok (.iload 7, 2) := by decide +kernel
theorem d_Likes_eliminate_86 : decode (ab_bc mt_Likes_eliminate) 86 = .ok (.iload 5, 2) := by decide +kernel
theorem d_Likes_eliminate_88 : decode (ab_bc mt_Likes_eliminate) 88 = .ok (.iadd, 1) := by decide +kernel
theorem d_Likes_eliminate_89 : decode (ab_bc mt_Likes_eliminate) 89 = .ok (.laload, 1) := by decide +kernel
theorem d_Likes_eliminate_90 : decode (ab_bc mt_Likes_eliminate) 90 = .ok (.aload_n 0, 1) := by decide +kernel
theorem d_Likes_eliminate_91 : decode (ab_bc mt_Likes_eliminate) 91 = .ok (.getfield 18, 3) := by decide +kernel
theorem d_Likes_eliminate_94 : decode (ab_bc mt_Likes_eliminate) 94 = .ok (.iload 5, 2) := by decide +kernel
theorem d_Likes_eliminate_96 : decode (ab_bc mt_Likes_eliminate) 96 = .ok (.bipush 10, 2) := by decide +kernel
theorem d_Likes_eliminate_98 : decode (ab_bc mt_Likes_eliminate) 98 = .ok (.imul, 1) := by decide +kernel
theorem d_Likes_eliminate_99 : decode (ab_bc mt_Likes_eliminate) 99 = .ok (.aload_n 0, 1) := by decide +kernel
theorem d_Likes_eliminate_100 : decode (ab_bc mt_Likes_eliminate) 100 = .ok (.getfield 22, 3) := by decide +kernel
theorem d_Likes_eliminate_103 : decode (ab_bc mt_Likes_eliminate) 103 = .ok (.iload 8, 2) := by decide +kernel
theorem d_Likes_eliminate_105 : decode (ab_bc mt_Likes_eliminate) 105 = .ok (.iaload, 1) := by decide +kernel
theorem d_Likes_eliminate_106 : decode (ab_bc mt_Likes_eliminate) 106 = .ok (.iadd, 1) := by decide +kernel
theorem d_Likes_eliminate_107 : decode (ab_bc mt_Likes_eliminate) 107 = .ok (.laload, 1) := by decide +kernel
theorem d_Likes_eliminate_108 : decode (ab_bc mt_Likes_eliminate) 108 = .ok (.lmul, 1) := by decide +kernel
theorem d_Likes_eliminate_109 : decode (ab_bc mt_Likes_eliminate) 109 = .ok (.lstore 11, 2) := by decide +kernel
theorem d_Likes_eliminate_111 : decode (ab_bc mt_Likes_eliminate) 111 = .ok (.aload_n 0, 1) := by decide +kernel
theorem d_Likes_eliminate_112 : decode (ab_bc mt_Likes_eliminate) 112 = .ok (.getfield 18, 3) := by decide +kernel
theorem d_Likes_eliminate_115 : decode (ab_bc mt_Likes_eliminate) 115 = .ok (.iload 7, 2) := by decide +kernel
theorem d_Likes_eliminate_117 : decode (ab_bc mt_Likes_eliminate) 117 = .ok (.aload_n 0, 1) := by decide +kernel
theorem d_Likes_eliminate_118 : decode (ab_bc mt_Likes_eliminate) 118 = .ok (.getfield 22, 3) := by decide +kernel
theorem d_Likes_eliminate_121 : decode (ab_bc mt_Likes_eliminate) 121 = .ok (.iload 8, 2) := by decide +kernel
theorem d_Likes_eliminate_123 : decode (ab_bc mt_Likes_eliminate) 123 = .ok (.iaload, 1) := by decide +kernel
theorem d_Likes_eliminate_124 : decode (ab_bc mt_Likes_eliminate) 124 = .ok (.iadd, 1) := by decide +kernel
theorem d_Likes_eliminate_125 : decode (ab_bc mt_Likes_eliminate) 125 = .ok (.lload 9, 2) := by decide +kernel
theorem d_Likes_eliminate_127 : decode (ab_bc mt_Likes_eliminate) 127 = .ok (.lload 11, 2) := by decide +kernel
theorem d_Likes_eliminate_129 : decode (ab_bc mt_Likes_eliminate) 129 = .ok (.lsub, 1) := by decide +kernel
theorem d_Likes_eliminate_130 : decode (ab_bc mt_Likes_eliminate) 130 = .ok (.lload_n 3, 1) := by decide +kernel
theorem d_Likes_eliminate_131 : decode (ab_bc mt_Likes_eliminate) 131 = .ok (.ldiv, 1) := by decide +kernel
theorem d_Likes_eliminate_132 : decode (ab_bc mt_Likes_eliminate) 132 = .ok (.lastore, 1) := by decide +kernel
theorem d_Likes_eliminate_133 : decode (ab_bc mt_Likes_eliminate) 133 = .ok (.iinc 8 1, 3) := by decide +kernel
theorem d_Likes_eliminate_136 : decode (ab_bc mt_Likes_eliminate) 136 = .ok (.goto (-93), 3) := by decide +kernel
theorem d_Likes_eliminate_139 : decode (ab_bc mt_Likes_eliminate) 139 = .ok (.iinc 6 1, 3) := by decide +kernel
theorem d_Likes_eliminate_142 : decode (ab_bc mt_Likes_eliminate) 142 = .ok (.goto (-122), 3) := by decide +kernel
theorem d_Likes_eliminate_145 : decode (ab_bc mt_Likes_eliminate) 145 = .ok (.return_, 1) := by decide +kernel
-- CableKeeper$Likes.eliminate(IIJ)V over kx_likes
theorem q_Likes_eliminate_0 {w : ab_Wd} {d n nc ns : Nat} {I : Nat → Nat → Int32} {L : Nat → Nat → Int64} {res : ab_Re} (v1 : Int32) (v2 : Int32) (v3 : Int64) (hc : nc ≤ res.2.2.2.2.2.1) (hs : ns ≤ res.2.2.2.2.2.2)
    (h : ((¬ (lg_cmp v3 0) = 0 → ((vp_in v1 10) ∧ ab_E w d mt_Likes_eliminate 20 [.ref kx_likes, .int v1, .int v2, .long v3, .null, .int (I kx_likes_rows v1.toNatClampNeg), .int (v1 + 1), .null, .null, .null, .null, .null, .null] [] (I, L, ab_RR, n, nc, ns) res)) ∧ ((lg_cmp v3 0) = 0 → (res = (.inl none, (I, L, ab_RR, n, nc, ns)))))) : ab_E w d mt_Likes_eliminate 0 [.ref kx_likes, .int v1, .int v2, .long v3, .null, .null, .null, .null, .null, .null, .null, .null, .null] [] (I, L, ab_RR, n, nc, ns) res := by
  refine ab_lload_n (i := 3) d_Likes_eliminate_0 rfl rfl ?_
  refine ab_lconst (v := 0) d_Likes_eliminate_1 rfl ?_
  refine ab_lcmp d_Likes_eliminate_2 ?_
  refine ab_if_ne (tgt := 7) d_Likes_eliminate_3 (by decide) (fun c1 => ?_) (fun c1 => ?_)
  · have h := h.1 c1
    refine ab_aload_n (i := 0) d_Likes_eliminate_7 rfl rfl ?_
    refine ab_getR (ci := 3) (k := 3) (j := kx_likes_rows) d_Likes_eliminate_8 v_410 rfl (by decide) (by decide) rfl r_kx_likes_3 ?_
    refine ab_iload_n (i := 1) d_Likes_eliminate_11 rfl rfl ?_
    have g2 := h.1; have h := h.2
    refine ab_iald d_Likes_eliminate_12 rfl rfl g2 ?_
    refine ab_istore (i := 5) d_Likes_eliminate_13 (by decide) (Or.inr rfl) ?_
    refine ab_iload_n (i := 1) d_Likes_eliminate_15 rfl rfl ?_
    refine ab_iconst (v := 1) d_Likes_eliminate_16 rfl ?_
    refine ab_iadd d_Likes_eliminate_17 ?_
    refine ab_istore (i := 6) d_Likes_eliminate_18 (by decide) (Or.inr rfl) ?_
    exact h
  · have h := h.2 c1
    exact ab_vret d_Likes_eliminate_6 rfl h
theorem q_Likes_eliminate_20 {w : ab_Wd} {d n nc ns : Nat} {I : Nat → Nat → Int32} {L : Nat → Nat → Int64} {res : ab_Re} (v1 : Int32) (v2 : Int32) (v3 : Int64) (v5 : Int32) (v6 : Int32) (hc : nc ≤ res.2.2.2.2.2.1) (hs : ns ≤ res.2.2.2.2.2.2)
    (h : ((v2 ≤ v6 → (res = (.inl none, (I, L, ab_RR, n, nc, ns)))) ∧ (¬ v2 ≤ v6 → ((vp_in v6 10) ∧ ab_E w d mt_Likes_eliminate 43 [.ref kx_likes, .int v1, .int v2, .long v3, .null, .int v5, .int v6, .int ((I kx_likes_rows v6.toNatClampNeg) * 10), .int (v1 + 1), .null, .null, .null, .null] [] (I, L, ab_RR, n, nc, ns) res)))) : ab_E w d mt_Likes_eliminate 20 [.ref kx_likes, .int v1, .int v2, .long v3, .null, .int v5, .int v6, .null, .null, .null, .null, .null, .null] [] (I, L, ab_RR, n, nc, ns) res := by
  refine ab_iload (i := 6) d_Likes_eliminate_20 rfl ?_
  refine ab_iload_n (i := 2) d_Likes_eliminate_22 rfl rfl ?_
  refine ab_icmp_ge (tgt := 145) d_Likes_eliminate_23 (by decide) (fun c1 => ?_) (fun c1 => ?_)
  · have h := h.1 c1
    exact ab_vret d_Likes_eliminate_145 rfl h
  · have h := h.2 c1
    refine ab_aload_n (i := 0) d_Likes_eliminate_26 rfl rfl ?_
    refine ab_getR (ci := 3) (k := 3) (j := kx_likes_rows) d_Likes_eliminate_27 v_410 rfl (by decide) (by decide) rfl r_kx_likes_3 ?_
    refine ab_iload (i := 6) d_Likes_eliminate_30 rfl ?_
    have g2 := h.1; have h := h.2
    refine ab_iald d_Likes_eliminate_32 rfl rfl g2 ?_
    refine ab_bipush (v := 10) d_Likes_eliminate_33 rfl ?_
    refine ab_imul d_Likes_eliminate_35 ?_
    refine ab_istore (i := 7) d_Likes_eliminate_36 (by decide) (Or.inr rfl) ?_
    refine ab_iload_n (i := 1) d_Likes_eliminate_38 rfl rfl ?_
    refine ab_iconst (v := 1) d_Likes_eliminate_39 rfl ?_
    refine ab_iadd d_Likes_eliminate_40 ?_
    refine ab_istore (i := 8) d_Likes_eliminate_41 (by decide) (Or.inr rfl) ?_
    exact h
theorem q_Likes_eliminate_43 {w : ab_Wd} {d n nc ns : Nat} {I : Nat → Nat → Int32} {L : Nat → Nat → Int64} {res : ab_Re} (v1 : Int32) (v2 : Int32) (v3 : Int64) (v5 : Int32) (v6 : Int32) (v7 : Int32) (v8 : Int32) (hc : nc ≤ res.2.2.2.2.2.1) (hs : ns ≤ res.2.2.2.2.2.2)
    (h : ((v2 ≤ v8 → (ab_E w d mt_Likes_eliminate 20 [.ref kx_likes, .int v1, .int v2, .long v3, .null, .int v5, .int (v6 + 1), .null, .null, .null, .null, .null, .null] [] (I, L, ab_RR, n, nc, ns) res)) ∧ (¬ v2 ≤ v8 → ((vp_in v8 10) ∧ (vp_in (v7 + (I kx_likes_rows v8.toNatClampNeg)) 100) ∧ (vp_in ((v5 * 10) + v5) 100) ∧ (vp_in (v7 + v5) 100) ∧ (vp_in ((v5 * 10) + (I kx_likes_rows v8.toNatClampNeg)) 100) ∧ (¬ v3 = 0) ∧ ab_E w d mt_Likes_eliminate 43 [.ref kx_likes, .int v1, .int v2, .long v3, .null, .int v5, .int v6, .int v7, .int (v8 + 1), .null, .null, .null, .null] [] (I, (ab_upL L kx_likes_matrix (v7 + (I kx_likes_rows v8.toNatClampNeg)).toNatClampNeg ((((L kx_likes_matrix (v7 + (I kx_likes_rows v8.toNatClampNeg)).toNatClampNeg) * (L kx_likes_matrix ((v5 * 10) + v5).toNatClampNeg)) - ((L kx_likes_matrix (v7 + v5).toNatClampNeg) * (L kx_likes_matrix ((v5 * 10) + (I kx_likes_rows v8.toNatClampNeg)).toNatClampNeg))) / v3)), ab_RR, n, nc, ns) res)))) : ab_E w d mt_Likes_eliminate 43 [.ref kx_likes, .int v1, .int v2, .long v3, .null, .int v5, .int v6, .int v7, .int v8, .null, .null, .null, .null] [] (I, L, ab_RR, n, nc, ns) res := by
  refine ab_iload (i := 8) d_Likes_eliminate_43 rfl ?_
  refine ab_iload_n (i := 2) d_Likes_eliminate_45 rfl rfl ?_
  refine ab_icmp_ge (tgt := 139) d_Likes_eliminate_46 (by decide) (fun c1 => ?_) (fun c1 => ?_)
  · have h := h.1 c1
    refine ab_iinc (i := 6) (v := (v6 + 1)) d_Likes_eliminate_139 rfl rfl (by decide) (Or.inr rfl) ?_
    refine ab_goto (tgt := 20) d_Likes_eliminate_142 (by decide) ?_
    refine ab_drop 7 ?_
    refine ab_drop 8 ?_
    exact h
  · have h := h.2 c1
    refine ab_aload_n (i := 0) d_Likes_eliminate_49 rfl rfl ?_
    refine ab_getR (ci := 3) (k := 2) (j := kx_likes_matrix) d_Likes_eliminate_50 v_409 rfl (by decide) (by decide) rfl r_kx_likes_2 ?_
    refine ab_iload (i := 7) d_Likes_eliminate_53 rfl ?_
    refine ab_aload_n (i := 0) d_Likes_eliminate_55 rfl rfl ?_
    refine ab_getR (ci := 3) (k := 3) (j := kx_likes_rows) d_Likes_eliminate_56 v_410 rfl (by decide) (by decide) rfl r_kx_likes_3 ?_
    refine ab_iload (i := 8) d_Likes_eliminate_59 rfl ?_
    have g2 := h.1; have h := h.2
    refine ab_iald d_Likes_eliminate_61 rfl rfl g2 ?_
    refine ab_iadd d_Likes_eliminate_62 ?_
    have g3 := h.1; have h := h.2
    refine ab_lald d_Likes_eliminate_63 rfl rfl g3 ?_
    refine ab_aload_n (i := 0) d_Likes_eliminate_64 rfl rfl ?_
    refine ab_getR (ci := 3) (k := 2) (j := kx_likes_matrix) d_Likes_eliminate_65 v_409 rfl (by decide) (by decide) rfl r_kx_likes_2 ?_
    refine ab_iload (i := 5) d_Likes_eliminate_68 rfl ?_
    refine ab_bipush (v := 10) d_Likes_eliminate_70 rfl ?_
    refine ab_imul d_Likes_eliminate_72 ?_
    refine ab_iload (i := 5) d_Likes_eliminate_73 rfl ?_
    refine ab_iadd d_Likes_eliminate_75 ?_
    have g4 := h.1; have h := h.2
    refine ab_lald d_Likes_eliminate_76 rfl rfl g4 ?_
    refine ab_lmul d_Likes_eliminate_77 ?_
    refine ab_lstore (i := 9) d_Likes_eliminate_78 (by decide) (Or.inr rfl) ?_
    refine ab_aload_n (i := 0) d_Likes_eliminate_80 rfl rfl ?_
    refine ab_getR (ci := 3) (k := 2) (j := kx_likes_matrix) d_Likes_eliminate_81 v_409 rfl (by decide) (by decide) rfl r_kx_likes_2 ?_
    refine ab_iload (i := 7) d_Likes_eliminate_84 rfl ?_
    refine ab_iload (i := 5) d_Likes_eliminate_86 rfl ?_
    refine ab_iadd d_Likes_eliminate_88 ?_
    have g5 := h.1; have h := h.2
    refine ab_lald d_Likes_eliminate_89 rfl rfl g5 ?_
    refine ab_aload_n (i := 0) d_Likes_eliminate_90 rfl rfl ?_
    refine ab_getR (ci := 3) (k := 2) (j := kx_likes_matrix) d_Likes_eliminate_91 v_409 rfl (by decide) (by decide) rfl r_kx_likes_2 ?_
    refine ab_iload (i := 5) d_Likes_eliminate_94 rfl ?_
    refine ab_bipush (v := 10) d_Likes_eliminate_96 rfl ?_
    refine ab_imul d_Likes_eliminate_98 ?_
    refine ab_aload_n (i := 0) d_Likes_eliminate_99 rfl rfl ?_
    refine ab_getR (ci := 3) (k := 3) (j := kx_likes_rows) d_Likes_eliminate_100 v_410 rfl (by decide) (by decide) rfl r_kx_likes_3 ?_
    refine ab_iload (i := 8) d_Likes_eliminate_103 rfl ?_
    refine ab_iald d_Likes_eliminate_105 rfl rfl g2 ?_
    refine ab_iadd d_Likes_eliminate_106 ?_
    have g6 := h.1; have h := h.2
    refine ab_lald d_Likes_eliminate_107 rfl rfl g6 ?_
    refine ab_lmul d_Likes_eliminate_108 ?_
    refine ab_lstore (i := 11) d_Likes_eliminate_109 (by decide) (Or.inr rfl) ?_
    refine ab_aload_n (i := 0) d_Likes_eliminate_111 rfl rfl ?_
    refine ab_getR (ci := 3) (k := 2) (j := kx_likes_matrix) d_Likes_eliminate_112 v_409 rfl (by decide) (by decide) rfl r_kx_likes_2 ?_
    refine ab_iload (i := 7) d_Likes_eliminate_115 rfl ?_
    refine ab_aload_n (i := 0) d_Likes_eliminate_117 rfl rfl ?_
    refine ab_getR (ci := 3) (k := 3) (j := kx_likes_rows) d_Likes_eliminate_118 v_410 rfl (by decide) (by decide) rfl r_kx_likes_3 ?_
    refine ab_iload (i := 8) d_Likes_eliminate_121 rfl ?_
    refine ab_iald d_Likes_eliminate_123 rfl rfl g2 ?_
    refine ab_iadd d_Likes_eliminate_124 ?_
    refine ab_lload (i := 9) d_Likes_eliminate_125 rfl ?_
    refine ab_lload (i := 11) d_Likes_eliminate_127 rfl ?_
    refine ab_lsub d_Likes_eliminate_129 ?_
    refine ab_lload_n (i := 3) d_Likes_eliminate_130 rfl rfl ?_
    have g := h.1; have h := h.2
    refine ab_ldiv d_Likes_eliminate_131 g ?_
    refine ab_last d_Likes_eliminate_132 rfl rfl g3 ?_
    refine ab_iinc (i := 8) (v := (v8 + 1)) d_Likes_eliminate_133 rfl rfl (by decide) (Or.inr rfl) ?_
    refine ab_goto (tgt := 43) d_Likes_eliminate_136 (by decide) ?_
    refine ab_drop 9 ?_
    refine ab_drop 11 ?_
    exact h
