theorem d_Integer_bitCount_0 : decode (ab_bc mt_Integer_bitCount) 0 = .ok (.iload_n 0, 1) := by decide +kernel
theorem d_Integer_bitCount_1 : decode (ab_bc mt_Integer_bitCount) 1 = .ok (.iload_n 0, 1) := by decide +kernel
theorem d_Integer_bitCount_2 : decode (ab_bc mt_Integer_bitCount) 2 = .ok (.iconst 1, 1) := by decide +kernel
theorem d_Integer_bitCount_3 : decode (ab_bc mt_Integer_bitCount) 3 = .ok (.iushr, 1) := by decide +kernel
theorem d_Integer_bitCount_4 : decode (ab_bc mt_Integer_bitCount) 4 = .ok (.ldc_w 265, 3) := by decide +kernel
theorem d_Integer_bitCount_7 : decode (ab_bc mt_Integer_bitCount) 7 = .ok (.iand, 1) := by decide +kernel
theorem d_Integer_bitCount_8 : decode (ab_bc mt_Integer_bitCount) 8 = .ok (.isub, 1) := by decide +kernel
theorem d_Integer_bitCount_9 : decode (ab_bc mt_Integer_bitCount) 9 = .ok (.istore_n 0, 1) := by decide +kernel
theorem d_Integer_bitCount_10 : decode (ab_bc mt_Integer_bitCount) 10 = .ok (.iload_n 0, 1) := by decide +kernel
theorem d_Integer_bitCount_11 : decode (ab_bc mt_Integer_bitCount) 11 = .ok (.ldc_w 266, 3) := by decide +kernel
theorem d_Integer_bitCount_14 : decode (ab_bc mt_Integer_bitCount) 14 = .ok (.iand, 1) := by decide +kernel
theorem d_Integer_bitCount_15 : decode (ab_bc mt_Integer_bitCount) 15 = .ok (.iload_n 0, 1) := by decide +kernel
theorem d_Integer_bitCount_16 : decode (ab_bc mt_Integer_bitCount) 16 = .ok (.iconst 2, 1) := by decide +kernel
theorem d_Integer_bitCount_17 : decode (ab_bc mt_Integer_bitCount) 17 = .ok (.iushr, 1) := by decide +kernel
theorem d_Integer_bitCount_18 : decode (ab_bc mt_Integer_bitCount) 18 = .ok (.ldc_w 266, 3) := by decide +kernel
theorem d_Integer_bitCount_21 : decode (ab_bc mt_Integer_bitCount) 21 = .ok (.iand, 1) := by decide +kernel
theorem d_Integer_bitCount_22 : decode (ab_bc mt_Integer_bitCount) 22 = .ok (.iadd, 1) := by decide +kernel
theorem d_Integer_bitCount_23 : decode (ab_bc mt_Integer_bitCount) 23 = .ok (.istore_n 0, 1) := by decide +kernel
theorem d_Integer_bitCount_24 : decode (ab_bc mt_Integer_bitCount) 24 = .ok (.iload_n 0, 1) := by decide +kernel
theorem d_Integer_bitCount_25 : decode (ab_bc mt_Integer_bitCount) 25 = .ok (.iload_n 0, 1) := by decide +kernel
theorem d_Integer_bitCount_26 : decode (ab_bc mt_Integer_bitCount) 26 = .ok (.iconst 4, 1) := by decide +kernel
theorem d_Integer_bitCount_27 : decode (ab_bc mt_Integer_bitCount) 27 = .ok (.iushr, 1) := by decide +kernel
theorem d_Integer_bitCount_28 : decode (ab_bc mt_Integer_bitCount) 28 = .ok (.iadd, 1) := by decide +kernel
theorem d_Integer_bitCount_29 : decode (ab_bc mt_Integer_bitCount) 29 = .ok (.ldc_w 267, 3) := by decide +kernel
theorem d_Integer_bitCount_32 : decode (ab_bc mt_Integer_bitCount) 32 = .ok (.iand, 1) := by decide +kernel
theorem d_Integer_bitCount_33 : decode (ab_bc mt_Integer_bitCount) 33 = .ok (.istore_n 0, 1) := by decide +kernel
theorem d_Integer_bitCount_34 : decode (ab_bc mt_Integer_bitCount) 34 = .ok (.iload_n 0, 1) := by decide +kernel
theorem d_Integer_bitCount_35 : decode (ab_bc mt_Integer_bitCount) 35 = .ok (.iload_n 0, 1) := by decide +kernel
theorem d_Integer_bitCount_36 : decode (ab_bc mt_Integer_bitCount) 36 = .ok (.bipush 8, 2) := by decide +kernel
theorem d_Integer_bitCount_38 : decode (ab_bc mt_Integer_bitCount) 38 = .ok (.iushr, 1) := by decide +kernel
theorem d_Integer_bitCount_39 : decode (ab_bc mt_Integer_bitCount) 39 = .ok (.iadd, 1) := by decide +kernel
theorem d_Integer_bitCount_40 : decode (ab_bc mt_Integer_bitCount) 40 = .ok (.istore_n 0, 1) := by decide +kernel
theorem d_Integer_bitCount_41 : decode (ab_bc mt_Integer_bitCount) 41 = .ok (.iload_n 0, 1) := by decide +kernel
theorem d_Integer_bitCount_42 : decode (ab_bc mt_Integer_bitCount) 42 = .ok (.iload_n 0, 1) := by decide +kernel
theorem d_Integer_bitCount_43 : decode (ab_bc mt_Integer_bitCount) 43 = .ok (.bipush 16, 2) := by decide +kernel
theorem d_Integer_bitCount_45 : decode (ab_bc mt_Integer_bitCount) 45 = .ok (.iushr, 1) := by decide +kernel
theorem d_Integer_bitCount_46 : decode (ab_bc mt_Integer_bitCount) 46 = .ok (.iadd, 1) := by decide +kernel
theorem d_Integer_bitCount_47 : decode (ab_bc mt_Integer_bitCount) 47 = .ok (.istore_n 0, 1) := by decide +kernel
theorem d_Integer_bitCount_48 : decode (ab_bc mt_Integer_bitCount) 48 = .ok (.iload_n 0, 1) := by decide +kernel
theorem d_Integer_bitCount_49 : decode (ab_bc mt_Integer_bitCount) 49 = .ok (.bipush 63, 2) := by decide +kernel
theorem d_Integer_bitCount_51 : decode (ab_bc mt_Integer_bitCount) 51 = .ok (.iand, 1) := by decide +kernel
theorem d_Integer_bitCount_52 : decode (ab_bc mt_Integer_bitCount) 52 = .ok (.ireturn, 1) := by decide +kernel
-- java/lang/Integer.bitCount(I)I over 
theorem q_Integer_bitCount_0 {w : ab_Wd} {d n nc ns : Nat} {I : Nat → Nat → Int32} {L : Nat → Nat → Int64} {res : ab_Re} (v0 : Int32) (hc : nc ≤ res.2.2.2.2.2.1) (hs : ns ≤ res.2.2.2.2.2.2)
    (h : res = (.inl (some (.int ((((((((v0 - ((ab_ushr v0 1) &&& 1431655765)) &&& 858993459) + ((ab_ushr (v0 - ((ab_ushr v0 1) &&& 1431655765)) 2) &&& 858993459)) + (ab_ushr (((v0 - ((ab_ushr v0 1) &&& 1431655765)) &&& 858993459) + ((ab_ushr (v0 - ((ab_ushr v0 1) &&& 1431655765)) 2) &&& 858993459)) 4)) &&& 252645135) + (ab_ushr (((((v0 - ((ab_ushr v0 1) &&& 1431655765)) &&& 858993459) + ((ab_ushr (v0 - ((ab_ushr v0 1) &&& 1431655765)) 2) &&& 858993459)) + (ab_ushr (((v0 - ((ab_ushr v0 1) &&& 1431655765)) &&& 858993459) + ((ab_ushr (v0 - ((ab_ushr v0 1) &&& 1431655765)) 2) &&& 858993459)) 4)) &&& 252645135) 8)) + (ab_ushr ((((((v0 - ((ab_ushr v0 1) &&& 1431655765)) &&& 858993459) + ((ab_ushr (v0 - ((ab_ushr v0 1) &&& 1431655765)) 2) &&& 858993459)) + (ab_ushr (((v0 - ((ab_ushr v0 1) &&& 1431655765)) &&& 858993459) + ((ab_ushr (v0 - ((ab_ushr v0 1) &&& 1431655765)) 2) &&& 858993459)) 4)) &&& 252645135) + (ab_ushr (((((v0 - ((ab_ushr v0 1) &&& 1431655765)) &&& 858993459) + ((ab_ushr (v0 - ((ab_ushr v0 1) &&& 1431655765)) 2) &&& 858993459)) + (ab_ushr (((v0 - ((ab_ushr v0 1) &&& 1431655765)) &&& 858993459) + ((ab_ushr (v0 - ((ab_ushr v0 1) &&& 1431655765)) 2) &&& 858993459)) 4)) &&& 252645135) 8)) 16)) &&& 63))), (I, L, ab_RR, n, nc, ns))) : ab_E w d mt_Integer_bitCount 0 [.int v0] [] (I, L, ab_RR, n, nc, ns) res := by
  refine ab_iload_n (i := 0) d_Integer_bitCount_0 rfl rfl ?_
  refine ab_iload_n (i := 0) d_Integer_bitCount_1 rfl rfl ?_
  refine ab_iconst (v := 1) d_Integer_bitCount_2 rfl ?_
  refine ab_iushr (v := (ab_ushr v0 1)) d_Integer_bitCount_3 rfl ?_
  refine ab_ldcw (v := 1431655765) d_Integer_bitCount_4 v_967 ?_
  refine ab_iand d_Integer_bitCount_7 ?_
  refine ab_isub d_Integer_bitCount_8 ?_
  refine ab_istore_n (i := 0) d_Integer_bitCount_9 rfl (by decide) (Or.inl rfl) ?_
  refine ab_iload_n (i := 0) d_Integer_bitCount_10 rfl rfl ?_
  refine ab_ldcw (v := 858993459) d_Integer_bitCount_11 v_968 ?_
  refine ab_iand d_Integer_bitCount_14 ?_
  refine ab_iload_n (i := 0) d_Integer_bitCount_15 rfl rfl ?_
  refine ab_iconst (v := 2) d_Integer_bitCount_16 rfl ?_
  refine ab_iushr (v := (ab_ushr (v0 - ((ab_ushr v0 1) &&& 1431655765)) 2)) d_Integer_bitCount_17 rfl ?_
  refine ab_ldcw (v := 858993459) d_Integer_bitCount_18 v_968 ?_
  refine ab_iand d_Integer_bitCount_21 ?_
  refine ab_iadd d_Integer_bitCount_22 ?_
  refine ab_istore_n (i := 0) d_Integer_bitCount_23 rfl (by decide) (Or.inl rfl) ?_
  refine ab_iload_n (i := 0) d_Integer_bitCount_24 rfl rfl ?_
  refine ab_iload_n (i := 0) d_Integer_bitCount_25 rfl rfl ?_
  refine ab_iconst (v := 4) d_Integer_bitCount_26 rfl ?_
  refine ab_iushr (v := (ab_ushr (((v0 - ((ab_ushr v0 1) &&& 1431655765)) &&& 858993459) + ((ab_ushr (v0 - ((ab_ushr v0 1) &&& 1431655765)) 2) &&& 858993459)) 4)) d_Integer_bitCount_27 rfl ?_
  refine ab_iadd d_Integer_bitCount_28 ?_
  refine ab_ldcw (v := 252645135) d_Integer_bitCount_29 v_969 ?_
  refine ab_iand d_Integer_bitCount_32 ?_
  refine ab_istore_n (i := 0) d_Integer_bitCount_33 rfl (by decide) (Or.inl rfl) ?_
  refine ab_iload_n (i := 0) d_Integer_bitCount_34 rfl rfl ?_
  refine ab_iload_n (i := 0) d_Integer_bitCount_35 rfl rfl ?_
  refine ab_bipush (v := 8) d_Integer_bitCount_36 rfl ?_
  refine ab_iushr (v := (ab_ushr (((((v0 - ((ab_ushr v0 1) &&& 1431655765)) &&& 858993459) + ((ab_ushr (v0 - ((ab_ushr v0 1) &&& 1431655765)) 2) &&& 858993459)) + (ab_ushr (((v0 - ((ab_ushr v0 1) &&& 1431655765)) &&& 858993459) + ((ab_ushr (v0 - ((ab_ushr v0 1) &&& 1431655765)) 2) &&& 858993459)) 4)) &&& 252645135) 8)) d_Integer_bitCount_38 rfl ?_
  refine ab_iadd d_Integer_bitCount_39 ?_
  refine ab_istore_n (i := 0) d_Integer_bitCount_40 rfl (by decide) (Or.inl rfl) ?_
  refine ab_iload_n (i := 0) d_Integer_bitCount_41 rfl rfl ?_
  refine ab_iload_n (i := 0) d_Integer_bitCount_42 rfl rfl ?_
  refine ab_bipush (v := 16) d_Integer_bitCount_43 rfl ?_
  refine ab_iushr (v := (ab_ushr ((((((v0 - ((ab_ushr v0 1) &&& 1431655765)) &&& 858993459) + ((ab_ushr (v0 - ((ab_ushr v0 1) &&& 1431655765)) 2) &&& 858993459)) + (ab_ushr (((v0 - ((ab_ushr v0 1) &&& 1431655765)) &&& 858993459) + ((ab_ushr (v0 - ((ab_ushr v0 1) &&& 1431655765)) 2) &&& 858993459)) 4)) &&& 252645135) + (ab_ushr (((((v0 - ((ab_ushr v0 1) &&& 1431655765)) &&& 858993459) + ((ab_ushr (v0 - ((ab_ushr v0 1) &&& 1431655765)) 2) &&& 858993459)) + (ab_ushr (((v0 - ((ab_ushr v0 1) &&& 1431655765)) &&& 858993459) + ((ab_ushr (v0 - ((ab_ushr v0 1) &&& 1431655765)) 2) &&& 858993459)) 4)) &&& 252645135) 8)) 16)) d_Integer_bitCount_45 rfl ?_
  refine ab_iadd d_Integer_bitCount_46 ?_
  refine ab_istore_n (i := 0) d_Integer_bitCount_47 rfl (by decide) (Or.inl rfl) ?_
  refine ab_iload_n (i := 0) d_Integer_bitCount_48 rfl rfl ?_
  refine ab_bipush (v := 63) d_Integer_bitCount_49 rfl ?_
  refine ab_iand d_Integer_bitCount_51 ?_
  exact ab_iret (ty := .int) d_Integer_bitCount_52 rfl rfl h
theorem d_Integer_numberOfTrailingZeros_0 : decode (ab_bc mt_Integer_numberOfTrailingZeros) 0 = .ok (.iload_n 0, 1) := by decide +kernel
theorem d_Integer_numberOfTrailingZeros_1 : decode (ab_bc mt_Integer_numberOfTrailingZeros) 1 = .ok (.iconst (-1), 1) := by decide +kernel
theorem d_Integer_numberOfTrailingZeros_2 : decode (ab_bc mt_Integer_numberOfTrailingZeros) 2 = .ok (.ixor, 1) := by decide +kernel
theorem d_Integer_numberOfTrailingZeros_3 : decode (ab_bc mt_Integer_numberOfTrailingZeros) 3 = .ok (.iload_n 0, 1) := by decide +kernel
theorem d_Integer_numberOfTrailingZeros_4 : decode (ab_bc mt_Integer_numberOfTrailingZeros) 4 = .ok (.iconst 1, 1) := by decide +kernel
theorem d_Integer_numberOfTrailingZeros_5 : decode (ab_bc mt_Integer_numberOfTrailingZeros) 5 = .ok (.isub, 1) := by decide +kernel
theorem d_Integer_numberOfTrailingZeros_6 : decode (ab_bc mt_Integer_numberOfTrailingZeros) 6 = .ok (.iand, 1) := by decide +kernel
theorem d_Integer_numberOfTrailingZeros_7 : decode (ab_bc mt_Integer_numberOfTrailingZeros) 7 = .ok (.istore_n 0, 1) := by decide +kernel
theorem d_Integer_numberOfTrailingZeros_8 : decode (ab_bc mt_Integer_numberOfTrailingZeros) 8 = .ok (.iload_n 0, 1) := by decide +kernel
theorem d_Integer_numberOfTrailingZeros_9 : decode (ab_bc mt_Integer_numberOfTrailingZeros) 9 = .ok (.ifCond .gt 8, 3) := by decide +kernel
theorem d_Integer_numberOfTrailingZeros_12 : decode (ab_bc mt_Integer_numberOfTrailingZeros) 12 = .ok (.iload_n 0, 1) := by decide +kernel
theorem d_Integer_numberOfTrailingZeros_13 : decode (ab_bc mt_Integer_numberOfTrailingZeros) 13 = .ok (.bipush 32, 2) := by decide +kernel
theorem d_Integer_numberOfTrailingZeros_15 : decode (ab_bc mt_Integer_numberOfTrailingZeros) 15 = .ok (.iand, 1) := by decide +kernel
theorem d_Integer_numberOfTrailingZeros_16 : decode (ab_bc mt_Integer_numberOfTrailingZeros) 16 = .ok (.ireturn, 1) := by decide +kernel
theorem d_Integer_numberOfTrailingZeros_17 : decode (ab_bc mt_Integer_numberOfTrailingZeros) 17 = .ok (.iconst 1, 1) := by decide +kernel
theorem d_Integer_numberOfTrailingZeros_18 : decode (ab_bc mt_Integer_numberOfTrailingZeros) 18 = .ok (.istore_n 1, 1) := by decide +kernel
theorem d_Integer_numberOfTrailingZeros_19 : decode (ab_bc mt_Integer_numberOfTrailingZeros) 19 = .ok (.iload_n 0, 1) := by decide +kernel
theorem d_Integer_numberOfTrailingZeros_20 : decode (ab_bc mt_Integer_numberOfTrailingZeros) 20 = .ok (.ldc_w 264, 3) := by decide +kernel
theorem d_Integer_numberOfTrailingZeros_23 : decode (ab_bc mt_Integer_numberOfTrailingZeros) 23 = .ok (.if_icmp .le 11, 3) := by decide +kernel
theorem d_Integer_numberOfTrailingZeros_26 : decode (ab_bc mt_Integer_numberOfTrailingZeros) 26 = .ok (.iinc 1 16, 3) := by decide +kernel
theorem d_Integer_numberOfTrailingZeros_29 : decode (ab_bc mt_Integer_numberOfTrailingZeros) 29 = .ok (.iload_n 0, 1) := by decide +kernel
theorem d_Integer_numberOfTrailingZeros_30 : decode (ab_bc mt_Integer_numberOfTrailingZeros) 30 = .ok (.bipush 16, 2) := by decide +kernel
theorem d_Integer_numberOfTrailingZeros_32 : decode (ab_bc mt_Integer_numberOfTrailingZeros) 32 = .ok (.iushr, 1) := by decide +kernel
theorem d_Integer_numberOfTrailingZeros_33 : decode (ab_bc mt_Integer_numberOfTrailingZeros) 33 = .ok (.istore_n 0, 1) := by decide +kernel
theorem d_Integer_numberOfTrailingZeros_34 : decode (ab_bc mt_Integer_numberOfTrailingZeros) 34 = .ok (.iload_n 0, 1) := by decide +kernel
theorem d_Integer_numberOfTrailingZeros_35 : decode (ab_bc mt_Integer_numberOfTrailingZeros) 35 = .ok (.sipush 256, 3) := by decide +kernel
theorem d_Integer_numberOfTrailingZeros_38 : decode (ab_bc mt_Integer_numberOfTrailingZeros) 38 = .ok (.if_icmp .le 11, 3) := by decide +kernel
theorem d_Integer_numberOfTrailingZeros_41 : decode (ab_bc mt_Integer_numberOfTrailingZeros) 41 = .ok (.iinc 1 8, 3) := by decide +kernel
theorem d_Integer_numberOfTrailingZeros_44 : decode (ab_bc mt_Integer_numberOfTrailingZeros) 44 = .ok (.iload_n 0, 1) := by decide +kernel
theorem d_Integer_numberOfTrailingZeros_45 : decode (ab_bc mt_Integer_numberOfTrailingZeros) 45 = .ok (.bipush 8, 2) := by decide +kernel
theorem d_Integer_numberOfTrailingZeros_47 : decode (ab_bc mt_Integer_numberOfTrailingZeros) 47 = .ok (.iushr, 1) := by decide +kernel
theorem d_Integer_numberOfTrailingZeros_48 : decode (ab_bc mt_Integer_numberOfTrailingZeros) 48 = .ok (.istore_n 0, 1) := by decide +kernel
theorem d_Integer_numberOfTrailingZeros_49 : decode (ab_bc mt_Integer_numberOfTrailingZeros) 49 = .ok (.iload_n 0, 1) := by decide +kernel
theorem d_Integer_numberOfTrailingZeros_50 : decode (ab_bc mt_Integer_numberOfTrailingZeros) 50 = .ok (.bipush 16, 2) := by decide +kernel
theorem d_Integer_numberOfTrailingZeros_52 : decode (ab_bc mt_Integer_numberOfTrailingZeros) 52 = .ok (.if_icmp .le 10, 3) := by decide +kernel
theorem d_Integer_numberOfTrailingZeros_55 : decode (ab_bc mt_Integer_numberOfTrailingZeros) 55 = .ok (.iinc 1 4, 3) := by decide +kernel
theorem d_Integer_numberOfTrailingZeros_58 : decode (ab_bc mt_Integer_numberOfTrailingZeros) 58 = .ok (.iload_n 0, 1) := by decide +kernel
theorem d_Integer_numberOfTrailingZeros_59 : decode (ab_bc mt_Integer_numberOfTrailingZeros) 59 = .ok (.iconst 4, 1) := by decide +kernel
theorem d_Integer_numberOfTrailingZeros_60 : decode (ab_bc mt_Integer_numberOfTrailingZeros) 60 = .ok (.iushr, 1) := by decide +kernel
theorem d_Integer_numberOfTrailingZeros_61 : decode (ab_bc mt_Integer_numberOfTrailingZeros) 61 = .ok (.istore_n 0, 1) := by decide +kernel
theorem d_Integer_numberOfTrailingZeros_62 : decode (ab_bc mt_Integer_numberOfTrailingZeros) 62 = .ok (.iload_n 0, 1) := by decide +kernel
theorem d_Integer_numberOfTrailingZeros_63 : decode (ab_bc mt_Integer_numberOfTrailingZeros) 63 = .ok (.iconst 4, 1) := by decide +kernel
theorem d_Integer_numberOfTrailingZeros_64 : decode (ab_bc mt_Integer_numberOfTrailingZeros) 64 = .ok (.if_icmp .le 10, 3) := by decide +kernel
theorem d_Integer_numberOfTrailingZeros_67 : decode (ab_bc mt_Integer_numberOfTrailingZeros) 67 = .ok (.iinc 1 2, 3) := by decide +kernel
theorem d_Integer_numberOfTrailingZeros_70 : decode (ab_bc mt_Integer_numberOfTrailingZeros) 70 = .ok (.iload_n 0, 1) := by decide +kernel
theorem d_Integer_numberOfTrailingZeros_71 : decode (ab_bc mt_Integer_numberOfTrailingZeros) 71 = .ok (.iconst 2, 1) := by decide +kernel
theorem d_Integer_numberOfTrailingZeros_72 : decode (ab_bc mt_Integer_numberOfTrailingZeros) 72 = .ok (.iushr, 1) := by decide +kernel
theorem d_Integer_numberOfTrailingZeros_73 : decode (ab_bc mt_Integer_numberOfTrailingZeros) 73 = .ok (.istore_n 0, 1) := by decide +kernel
theorem d_Integer_numberOfTrailingZeros_74 : decode (ab_bc mt_Integer_numberOfTrailingZeros) 74 = .ok (.iload_n 1, 1) := by decide +kernel
theorem d_Integer_numberOfTrailingZeros_75 : decode (ab_bc mt_Integer_numberOfTrailingZeros) 75 = .ok (.iload_n 0, 1) := by decide +kernel
theorem d_Integer_numberOfTrailingZeros_76 : decode (ab_bc mt_Integer_numberOfTrailingZeros) 76 = .ok (.iconst 1, 1) := by decide +kernel
theorem d_Integer_numberOfTrailingZeros_77 : decode (ab_bc mt_Integer_numberOfTrailingZeros) 77 = .ok (.iushr, 1) := by decide +kernel
theorem d_Integer_numberOfTrailingZeros_78 : decode (ab_bc mt_Integer_numberOfTrailingZeros) 78 = .ok (.iadd, 1) := by decide +kernel
theorem d_Integer_numberOfTrailingZeros_79 : decode (ab_bc mt_Integer_numberOfTrailingZeros) 79 = .ok (.ireturn, 1) := by decide +kernel
-- java/lang/Integer.numberOfTrailingZeros(I)I over 
theorem q_Integer_numberOfTrailingZeros_0 {w : ab_Wd} {d n nc ns : Nat} {I : Nat → Nat → Int32} {L : Nat → Nat → Int64} {res : ab_Re} (v0 : Int32) (hc : nc ≤ res.2.2.2.2.2.1) (hs : ns ≤ res.2.2.2.2.2.2)
    (h : ((0 < ((v0 ^^^ (-1)) &&& (v0 - 1)) → ((((v0 ^^^ (-1)) &&& (v0 - 1)) ≤ 65536 → (ab_E w d mt_Integer_numberOfTrailingZeros 34 [.int ((v0 ^^^ (-1)) &&& (v0 - 1)), .int 1] [] (I, L, ab_RR, n, nc, ns) res)) ∧ (¬ ((v0 ^^^ (-1)) &&& (v0 - 1)) ≤ 65536 → (ab_E w d mt_Integer_numberOfTrailingZeros 34 [.int (ab_ushr ((v0 ^^^ (-1)) &&& (v0 - 1)) 16), .int (1 + 16)] [] (I, L, ab_RR, n, nc, ns) res)))) ∧ (¬ 0 < ((v0 ^^^ (-1)) &&& (v0 - 1)) → (res = (.inl (some (.int (((v0 ^^^ (-1)) &&& (v0 - 1)) &&& 32))), (I, L, ab_RR, n, nc, ns)))))) : ab_E w d mt_Integer_numberOfTrailingZeros 0 [.int v0, .null] [] (I, L, ab_RR, n, nc, ns) res := by
  refine ab_iload_n (i := 0) d_Integer_numberOfTrailingZeros_0 rfl rfl ?_
  refine ab_iconst (v := (-1)) d_Integer_numberOfTrailingZeros_1 rfl ?_
  refine ab_ixor d_Integer_numberOfTrailingZeros_2 ?_
  refine ab_iload_n (i := 0) d_Integer_numberOfTrailingZeros_3 rfl rfl ?_
  refine ab_iconst (v := 1) d_Integer_numberOfTrailingZeros_4 rfl ?_
  refine ab_isub d_Integer_numberOfTrailingZeros_5 ?_
  refine ab_iand d_Integer_numberOfTrailingZeros_6 ?_
  refine ab_istore_n (i := 0) d_Integer_numberOfTrailingZeros_7 rfl (by decide) (Or.inl rfl) ?_
  refine ab_iload_n (i := 0) d_Integer_numberOfTrailingZeros_8 rfl rfl ?_
  refine ab_if_gt (tgt := 17) d_Integer_numberOfTrailingZeros_9 (by decide) (fun c1 => ?_) (fun c1 => ?_)
  · have h := h.1 c1
    refine ab_iconst (v := 1) d_Integer_numberOfTrailingZeros_17 rfl ?_
    refine ab_istore_n (i := 1) d_Integer_numberOfTrailingZeros_18 rfl (by decide) (Or.inr rfl) ?_
    refine ab_iload_n (i := 0) d_Integer_numberOfTrailingZeros_19 rfl rfl ?_
    refine ab_ldcw (v := 65536) d_Integer_numberOfTrailingZeros_20 v_1919 ?_
    refine ab_icmp_le (tgt := 34) d_Integer_numberOfTrailingZeros_23 (by decide) (fun c2 => ?_) (fun c2 => ?_)
    · have h := h.1 c2
      exact h
    · have h := h.2 c2
      refine ab_iinc (i := 1) (v := (1 + 16)) d_Integer_numberOfTrailingZeros_26 rfl rfl (by decide) (Or.inr rfl) ?_
      refine ab_iload_n (i := 0) d_Integer_numberOfTrailingZeros_29 rfl rfl ?_
      refine ab_bipush (v := 16) d_Integer_numberOfTrailingZeros_30 rfl ?_
      refine ab_iushr (v := (ab_ushr ((v0 ^^^ (-1)) &&& (v0 - 1)) 16)) d_Integer_numberOfTrailingZeros_32 rfl ?_
      refine ab_istore_n (i := 0) d_Integer_numberOfTrailingZeros_33 rfl (by decide) (Or.inl rfl) ?_
      exact h
  · have h := h.2 c1
    refine ab_iload_n (i := 0) d_Integer_numberOfTrailingZeros_12 rfl rfl ?_
    refine ab_bipush (v := 32) d_Integer_numberOfTrailingZeros_13 rfl ?_
    refine ab_iand d_Integer_numberOfTrailingZeros_15 ?_
    exact ab_iret (ty := .int) d_Integer_numberOfTrailingZeros_16 rfl rfl h
theorem q_Integer_numberOfTrailingZeros_34 {w : ab_Wd} {d n nc ns : Nat} {I : Nat → Nat → Int32} {L : Nat → Nat → Int64} {res : ab_Re} (v0 : Int32) (v1 : Int32) (hc : nc ≤ res.2.2.2.2.2.1) (hs : ns ≤ res.2.2.2.2.2.2)
    (h : ((v0 ≤ 256 → (ab_E w d mt_Integer_numberOfTrailingZeros 49 [.int v0, .int v1] [] (I, L, ab_RR, n, nc, ns) res)) ∧ (¬ v0 ≤ 256 → (ab_E w d mt_Integer_numberOfTrailingZeros 49 [.int (ab_ushr v0 8), .int (v1 + 8)] [] (I, L, ab_RR, n, nc, ns) res)))) : ab_E w d mt_Integer_numberOfTrailingZeros 34 [.int v0, .int v1] [] (I, L, ab_RR, n, nc, ns) res := by
  refine ab_iload_n (i := 0) d_Integer_numberOfTrailingZeros_34 rfl rfl ?_
  refine ab_sipush (v := 256) d_Integer_numberOfTrailingZeros_35 rfl ?_
  refine ab_icmp_le (tgt := 49) d_Integer_numberOfTrailingZeros_38 (by decide) (fun c1 => ?_) (fun c1 => ?_)
  · have h := h.1 c1
    exact h
  · have h := h.2 c1
    refine ab_iinc (i := 1) (v := (v1 + 8)) d_Integer_numberOfTrailingZeros_41 rfl rfl (by decide) (Or.inr rfl) ?_
    refine ab_iload_n (i := 0) d_Integer_numberOfTrailingZeros_44 rfl rfl ?_
    refine ab_bipush (v := 8) d_Integer_numberOfTrailingZeros_45 rfl ?_
    refine ab_iushr (v := (ab_ushr v0 8)) d_Integer_numberOfTrailingZeros_47 rfl ?_
    refine ab_istore_n (i := 0) d_Integer_numberOfTrailingZeros_48 rfl (by decide) (Or.inl rfl) ?_
    exact h
theorem q_Integer_numberOfTrailingZeros_49 {w : ab_Wd} {d n nc ns : Nat} {I : Nat → Nat → Int32} {L : Nat → Nat → Int64} {res : ab_Re} (v0 : Int32) (v1 : Int32) (hc : nc ≤ res.2.2.2.2.2.1) (hs : ns ≤ res.2.2.2.2.2.2)
    (h : ((v0 ≤ 16 → (ab_E w d mt_Integer_numberOfTrailingZeros 62 [.int v0, .int v1] [] (I, L, ab_RR, n, nc, ns) res)) ∧ (¬ v0 ≤ 16 → (ab_E w d mt_Integer_numberOfTrailingZeros 62 [.int (ab_ushr v0 4), .int (v1 + 4)] [] (I, L, ab_RR, n, nc, ns) res)))) : ab_E w d mt_Integer_numberOfTrailingZeros 49 [.int v0, .int v1] [] (I, L, ab_RR, n, nc, ns) res := by
  refine ab_iload_n (i := 0) d_Integer_numberOfTrailingZeros_49 rfl rfl ?_
  refine ab_bipush (v := 16) d_Integer_numberOfTrailingZeros_50 rfl ?_
  refine ab_icmp_le (tgt := 62) d_Integer_numberOfTrailingZeros_52 (by decide) (fun c1 => ?_) (fun c1 => ?_)
  · have h := h.1 c1
    exact h
  · have h := h.2 c1
    refine ab_iinc (i := 1) (v := (v1 + 4)) d_Integer_numberOfTrailingZeros_55 rfl rfl (by decide) (Or.inr rfl) ?_
    refine ab_iload_n (i := 0) d_Integer_numberOfTrailingZeros_58 rfl rfl ?_
    refine ab_iconst (v := 4) d_Integer_numberOfTrailingZeros_59 rfl ?_
    refine ab_iushr (v := (ab_ushr v0 4)) d_Integer_numberOfTrailingZeros_60 rfl ?_
    refine ab_istore_n (i := 0) d_Integer_numberOfTrailingZeros_61 rfl (by decide) (Or.inl rfl) ?_
    exact h
theorem q_Integer_numberOfTrailingZeros_62 {w : ab_Wd} {d n nc ns : Nat} {I : Nat → Nat → Int32} {L : Nat → Nat → Int64} {res : ab_Re} (v0 : Int32) (v1 : Int32) (hc : nc ≤ res.2.2.2.2.2.1) (hs : ns ≤ res.2.2.2.2.2.2)
    (h : ((v0 ≤ 4 → (ab_E w d mt_Integer_numberOfTrailingZeros 74 [.int v0, .int v1] [] (I, L, ab_RR, n, nc, ns) res)) ∧ (¬ v0 ≤ 4 → (ab_E w d mt_Integer_numberOfTrailingZeros 74 [.int (ab_ushr v0 2), .int (v1 + 2)] [] (I, L, ab_RR, n, nc, ns) res)))) : ab_E w d mt_Integer_numberOfTrailingZeros 62 [.int v0, .int v1] [] (I, L, ab_RR, n, nc, ns) res := by
  refine ab_iload_n (i := 0) d_Integer_numberOfTrailingZeros_62 rfl rfl ?_
  refine ab_iconst (v := 4) d_Integer_numberOfTrailingZeros_63 rfl ?_
  refine ab_icmp_le (tgt := 74) d_Integer_numberOfTrailingZeros_64 (by decide) (fun c1 => ?_) (fun c1 => ?_)
  · have h := h.1 c1
    exact h
  · have h := h.2 c1
    refine ab_iinc (i := 1) (v := (v1 + 2)) d_Integer_numberOfTrailingZeros_67 rfl rfl (by decide) (Or.inr rfl) ?_
    refine ab_iload_n (i := 0) d_Integer_numberOfTrailingZeros_70 rfl rfl ?_
    refine ab_iconst (v := 2) d_Integer_numberOfTrailingZeros_71 rfl ?_
    refine ab_iushr (v := (ab_ushr v0 2)) d_Integer_numberOfTrailingZeros_72 rfl ?_
    refine ab_istore_n (i := 0) d_Integer_numberOfTrailingZeros_73 rfl (by decide) (Or.inl rfl) ?_
    exact h
theorem q_Integer_numberOfTrailingZeros_74 {w : ab_Wd} {d n nc ns : Nat} {I : Nat → Nat → Int32} {L : Nat → Nat → Int64} {res : ab_Re} (v0 : Int32) (v1 : Int32) (hc : nc ≤ res.2.2.2.2.2.1) (hs : ns ≤ res.2.2.2.2.2.2)
    (h : res = (.inl (some (.int (v1 + (ab_ushr v0 1)))), (I, L, ab_RR, n, nc, ns))) : ab_E w d mt_Integer_numberOfTrailingZeros 74 [.int v0, .int v1] [] (I, L, ab_RR, n, nc, ns) res := by
  refine ab_iload_n (i := 1) d_Integer_numberOfTrailingZeros_74 rfl rfl ?_
  refine ab_iload_n (i := 0) d_Integer_numberOfTrailingZeros_75 rfl rfl ?_
  refine ab_iconst (v := 1) d_Integer_numberOfTrailingZeros_76 rfl ?_
  refine ab_iushr (v := (ab_ushr v0 1)) d_Integer_numberOfTrailingZeros_77 rfl ?_
  refine ab_iadd d_Integer_numberOfTrailingZeros_78 ?_
  exact ab_iret (ty := .int) d_Integer_numberOfTrailingZeros_79 rfl rfl h
