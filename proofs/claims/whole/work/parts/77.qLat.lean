theorem d_Lat_charAt_0 : decode (ab_bc mt_Lat_charAt) 0 = .ok (.iload_n 1, 1) := by decide +kernel
theorem d_Lat_charAt_1 : decode (ab_bc mt_Lat_charAt) 1 = .ok (.aload_n 0, 1) := by decide +kernel
theorem d_Lat_charAt_2 : decode (ab_bc mt_Lat_charAt) 2 = .ok (.arraylength, 1) := by decide +kernel
theorem d_Lat_charAt_3 : decode (ab_bc mt_Lat_charAt) 3 = .ok (.invokestatic 9, 3) := by decide +kernel
theorem d_Lat_charAt_6 : decode (ab_bc mt_Lat_charAt) 6 = .ok (.aload_n 0, 1) := by decide +kernel
theorem d_Lat_charAt_7 : decode (ab_bc mt_Lat_charAt) 7 = .ok (.iload_n 1, 1) := by decide +kernel
theorem d_Lat_charAt_8 : decode (ab_bc mt_Lat_charAt) 8 = .ok (.baload, 1) := by decide +kernel
theorem d_Lat_charAt_9 : decode (ab_bc mt_Lat_charAt) 9 = .ok (.sipush 255, 3) := by decide +kernel
theorem d_Lat_charAt_12 : decode (ab_bc mt_Lat_charAt) 12 = .ok (.iand, 1) := by decide +kernel
theorem d_Lat_charAt_13 : decode (ab_bc mt_Lat_charAt) 13 = .ok (.i2c, 1) := by decide +kernel
theorem d_Lat_charAt_14 : decode (ab_bc mt_Lat_charAt) 14 = .ok (.ireturn, 1) := by decide +kernel
-- java/lang/StringLatin1.charAt([BI)C over V:j
theorem q_Lat_charAt_0 {w : ab_Wd} {d n nc ns : Nat} {I : Nat → Nat → Int32} {L : Nat → Nat → Int64} {res : ab_Re} {j : Nat} (hj : j < 8) (v1 : Int32) (hc : nc ≤ res.2.2.2.2.2.1) (hs : ns ≤ res.2.2.2.2.2.2)
    (h : ab_C w d mt_Str_checkIndex [.int v1, .int (Int32.ofNat (ab_slen.getD j 0))] (I, L, ab_RR, n, nc, ns) (.inl none, (I, L, ab_RR, n, nc, ns)) ∧ (vp_in v1 (ab_slen.getD j 0)) ∧ (narrow .char (.int (ab_i2c16 (((ab_sbyt.getD j []).getD v1.toNatClampNeg 0) &&& 255))) = .int (ab_i2c16 (((ab_sbyt.getD j []).getD v1.toNatClampNeg 0) &&& 255))) ∧ res = (.inl (some (.int (ab_i2c16 (((ab_sbyt.getD j []).getD v1.toNatClampNeg 0) &&& 255)))), (I, L, ab_RR, n, nc, ns))) : ab_E w (d + 1) mt_Lat_charAt 0 [.ref (64 * j + 33), .int v1] [] (I, L, ab_RR, n, nc, ns) res := by
  refine ab_iload_n (i := 1) d_Lat_charAt_0 rfl rfl ?_
  refine ab_aload_n (i := 0) d_Lat_charAt_1 rfl rfl ?_
  refine ab_sblen (j := j) (v := (Int32.ofNat (ab_slen.getD j 0))) d_Lat_charAt_2 hj rfl ?_
  obtain ⟨hC, h⟩ := h
  refine ab_callS (me2 := mt_Str_checkIndex) (as := [.int v1, .int (Int32.ofNat (ab_slen.getD j 0))]) (st := []) (rv := none) (M2 := (I, L, ab_RR, n, nc, ns)) d_Lat_charAt_3 ce_Str_checkIndex ⟨v_855, Or.inl v_854⟩ (Nat.le_of_ble_eq_true rfl) hC (Nat.le_refl _) (Nat.le_refl _) hc hs (fun j h9 => by cases h9) (fun _ _ => rfl) ?_
  show ab_E w (d + 1) mt_Lat_charAt 6 [.ref (64 * j + 33), .int v1] [] (I, L, ab_RR, n, nc, ns) res
  refine ab_aload_n (i := 0) d_Lat_charAt_6 rfl rfl ?_
  refine ab_iload_n (i := 1) d_Lat_charAt_7 rfl rfl ?_
  have g2 := h.1; have h := h.2
  refine ab_sbald (j := j) d_Lat_charAt_8 hj g2 ?_
  refine ab_sipush (v := 255) d_Lat_charAt_9 rfl ?_
  refine ab_iand d_Lat_charAt_12 ?_
  refine ab_i2c (v := (ab_i2c16 (((ab_sbyt.getD j []).getD v1.toNatClampNeg 0) &&& 255))) d_Lat_charAt_13 rfl ?_
  have g := h.1; have h := h.2
  exact ab_iret (ty := .char) d_Lat_charAt_14 rfl g h
