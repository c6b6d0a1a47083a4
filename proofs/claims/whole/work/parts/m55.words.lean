/-! WORDS: length, charAt -/
section WRD
variable {w : ab_Wd} {d : Nat} {me : ab_Me} {pc : Nat} {ls st : List Value} {M : ab_M} {res : ab_Re}
theorem ab_raise (k : ab_E w d me pc ls st (ab_op M) res) : ab_E w d me pc ls st M res := by
  intro p e R s m args below meth c C n0 dom0 ad0 cA0 c0 s0 ad cA dom H locs lsA cells slots At
  obtain ⟨⟨r1, r2, r3, r4, r5⟩, a2, a3, a4, a5, a6, a7, a8, a9, a10, a11⟩ := At
  have hup : ∀ v, ab_ok dom M.2.2.2.1 v → ab_ok dom (M.2.2.2.1 + 1) v := fun v h => ab_ok_mono (fun _ h => h) (Nat.le_succ _) h
  exact k p e R s m args below meth c C n0 dom0 ad0 cA0 c0 s0 ad cA dom H locs lsA cells slots ⟨⟨r1, r2, fun j hj => ⟨Nat.le_succ_of_le (r3 j hj).1, (r3 j hj).2⟩, fun j hj k => hup _ (r4 j hj k), r5⟩, a2, a3, fun v h => hup v (a4 v h), fun v h => hup v (a5 v h), a6, Nat.le_succ_of_le a7, a8, a9, a10, a11⟩
end WRD
def mt_Pre_checkIndex : ab_Me := (⟨"jdk/internal/util/Preconditions", "checkIndex", "(IILjava/util/function/BiFunction;)I"⟩, prog_31_method_11_code, 3, some FieldType.int)
theorem v_p0 : (Cond.methodLink "java/lang/String" (1059 : Nat) mt_Pre_checkIndex.1) ∈ ab_T := ab_mg (ab_lw4 0 rfl) (by decide +kernel)
theorem v_p1 : (Cond.static mt_Pre_checkIndex.1) ∈ ab_T := ab_mg (ab_lw4 1 rfl) (by decide +kernel)
theorem v_p2 : (Cond.code mt_Pre_checkIndex.1 prog_31_method_11_code (3 : Nat) (some FieldType.int)) ∈ ab_T := ab_mg (ab_lw4 2 rfl) (by decide +kernel)
theorem v_p3 : (Cond.initialized "jdk/internal/util/Preconditions") ∈ ab_T := ab_mg (ab_lw1 20 rfl) (by decide +kernel)
theorem v_p4 : Cond.fieldLink "java/lang/String" 1053 "jdk/internal/util/Preconditions" "SIOOBE_FORMATTER" "Ljava/util/function/BiFunction;" ∈ ab_T := ab_mg (ab_lw3 238 rfl) (by decide +kernel)
theorem ce_Pre : ab_Ce mt_Pre_checkIndex 3 := ⟨v_p2, v_p3, ⟨by decide, by decide, by decide +kernel⟩, by decide⟩
theorem d_Pre_0 : decode (ab_bc mt_Pre_checkIndex) 0 = .ok (.iload_n 0, 1) := by decide +kernel
theorem d_Pre_1 : decode (ab_bc mt_Pre_checkIndex) 1 = .ok (.ifCond .lt 8, 3) := by decide +kernel
theorem d_Pre_4 : decode (ab_bc mt_Pre_checkIndex) 4 = .ok (.iload_n 0, 1) := by decide +kernel
theorem d_Pre_5 : decode (ab_bc mt_Pre_checkIndex) 5 = .ok (.iload_n 1, 1) := by decide +kernel
theorem d_Pre_6 : decode (ab_bc mt_Pre_checkIndex) 6 = .ok (.if_icmp .lt 10, 3) := by decide +kernel
theorem d_Pre_16 : decode (ab_bc mt_Pre_checkIndex) 16 = .ok (.iload_n 0, 1) := by decide +kernel
theorem d_Pre_17 : decode (ab_bc mt_Pre_checkIndex) 17 = .ok (.ireturn, 1) := by decide +kernel
theorem d_Sci_0 : decode (ab_bc mt_Str_checkIndex) 0 = .ok (.iload_n 0, 1) := by decide +kernel
theorem d_Sci_1 : decode (ab_bc mt_Str_checkIndex) 1 = .ok (.iload_n 1, 1) := by decide +kernel
theorem d_Sci_2 : decode (ab_bc mt_Str_checkIndex) 2 = .ok (.getstatic 1053, 3) := by decide +kernel
theorem d_Sci_5 : decode (ab_bc mt_Str_checkIndex) 5 = .ok (.invokestatic 1059, 3) := by decide +kernel
theorem d_Sci_8 : decode (ab_bc mt_Str_checkIndex) 8 = .ok (.pop, 1) := by decide +kernel
theorem d_Sci_9 : decode (ab_bc mt_Str_checkIndex) 9 = .ok (.return_, 1) := by decide +kernel
section WR2
variable {w : ab_Wd} {d n nc ns : Nat} {I : Nat → Nat → Int32} {L : Nat → Nat → Int64}
theorem k_preIndex (hT : w.1.stackTraces = false) {x y : Int32} {v : Value} (hv : v.category = 1) (h1 : ¬ x < 0) (h2 : x < y) : ab_C w d mt_Pre_checkIndex [.int x, .int y, v] (I, L, ab_RR, n, nc, ns) (.inl (some (.int x)), (I, L, ab_RR, n, nc, ns)) := by
  have hl : ab_sl [.int x, .int y, v] = [.int x, .int y, v] := by
    rw [ab_sl_cons, ab_sl_cons, ab_sl_cons, if_neg (show ¬ (Value.int x).category = 2 from (by decide : ¬ (1 : Nat) = 2)), if_neg (show ¬ (Value.int y).category = 2 from (by decide : ¬ (1 : Nat) = 2)), if_neg (show ¬ v.category = 2 by rw [hv]; decide)]; rfl
  refine ab_C_of (by decide) rfl (by rw [hl]; exact Nat.le_refl 3) hT ?_
  have he : ab_ent [.int x, .int y, v] (ab_ml mt_Pre_checkIndex) = [.int x, .int y, v] := by
    unfold ab_ent; rw [hl]; rfl
  rw [he]
  refine ab_iload_n (i := 0) d_Pre_0 rfl rfl ?_
  refine ab_if_lt (tgt := 9) d_Pre_1 rfl (fun h => absurd h h1) (fun _ => ?_)
  refine ab_iload_n (i := 0) d_Pre_4 rfl rfl ?_
  refine ab_iload_n (i := 1) d_Pre_5 rfl rfl ?_
  refine ab_icmp_lt (tgt := 16) d_Pre_6 rfl (fun _ => ?_) (fun h => absurd h2 h)
  refine ab_iload_n (i := 0) d_Pre_16 rfl rfl ?_
  exact ab_iret (ty := .int) d_Pre_17 rfl rfl rfl
theorem k_strIndex (hT : w.1.stackTraces = false) {x y : Int32} (h1 : ¬ x < 0) (h2 : x < y) : ab_C w (d + 1) mt_Str_checkIndex [.int x, .int y] (I, L, ab_RR, n, nc, ns) (.inl none, (I, L, ab_RR, n + 1, nc, ns)) := by
  refine ab_C_of (by decide) rfl (Nat.le_of_ble_eq_true rfl) hT ?_
  refine ab_iload_n (i := 0) d_Sci_0 rfl rfl ?_
  refine ab_iload_n (i := 1) d_Sci_1 rfl rfl ?_
  have hid : ab_bl (ab_id n 36 0) = n + 1 := by unfold ab_bl ab_id; omega
  have hcd : 32 ≤ ab_cd (ab_id n 36 0) := by unfold ab_cd ab_id; omega
  have tail : ab_E w (d + 1) mt_Str_checkIndex 9 [.int x, .int y] [] (I, L, ab_RR, n + 1, nc, ns) (.inl none, (I, L, ab_RR, n + 1, nc, ns)) := ab_vret d_Sci_9 rfl rfl
  refine ab_getOp (i := ab_id n 36 0) hid hcd d_Sci_2 v_p4 ?_ ?_
  · refine ab_callS (me2 := mt_Pre_checkIndex) (as := [.int x, .int y, .ref (ab_id n 36 0)]) (st := []) (rv := some (.int x)) (M2 := (I, L, ab_RR, n + 1, nc, ns)) d_Sci_5 ce_Pre ⟨v_p1, Or.inl v_p0⟩ (by decide) (k_preIndex (n := n + 1) hT rfl h1 h2) (Nat.le_refl _) (Nat.le_refl _) (Nat.le_refl _) (Nat.le_refl _) (fun j h => by cases h) (fun _ _ => rfl) ?_
    exact ab_popi d_Sci_8 tail
  · refine ab_callS (me2 := mt_Pre_checkIndex) (as := [.int x, .int y, .null]) (st := []) (rv := some (.int x)) (M2 := (I, L, ab_RR, n, nc, ns)) d_Sci_5 ce_Pre ⟨v_p1, Or.inl v_p0⟩ (by decide) (k_preIndex (n := n) hT rfl h1 h2) (Nat.le_refl _) (Nat.le_refl _) (Nat.le_refl _) (Nat.le_refl _) (fun j h => by cases h) (fun _ _ => rfl) ?_
    refine ab_popi d_Sci_8 (ab_raise ?_)
    exact tail
/-- the signs of the words -/
def wdS (j : Nat) : List Nat := [[115, 105, 116, 101, 115], [99, 97, 98, 108, 101], [98, 114, 111, 107, 101, 110], [115, 105, 116, 101, 115, 32], [99, 97, 98, 108, 101, 32], [32], [59], [98, 114, 111, 107, 101, 110, 32]].getD j []
theorem wd_len : ∀ j, j < 8 → (Int32.ofNat (ab_slen.getD j 0)) >>> ((0 : Int32) &&& 31) = nI (wdS j).length ∧ ab_slen.getD j 0 = (wdS j).length ∧ (wdS j).length ≤ 7 := by decide
theorem wd_at : ∀ j, j < 8 → ∀ i, i < 7 → i < (wdS j).length → ab_i2c16 (((ab_sbyt.getD j []).getD i 0) &&& 255) = nI ((wdS j).getD i 0) ∧ narrow .char (.int (nI ((wdS j).getD i 0))) = .int (nI ((wdS j).getD i 0)) ∧ (wdS j).getD i 0 < 128 := by decide
theorem k_latAt (hT : w.1.stackTraces = false) {j i : Nat} (hj : j < 8) (hi : i < (wdS j).length) : ab_C w (d + 2) mt_Lat_charAt [.ref (64 * j + 33), .int (nI i)] (I, L, ab_RR, n, nc, ns) (.inl (some (.int (nI ((wdS j).getD i 0)))), (I, L, ab_RR, n, nc, ns)) := by
  obtain ⟨l1, l2, l3⟩ := wd_len j hj
  obtain ⟨a1, a2, a3⟩ := wd_at j hj i (by omega) hi
  refine ab_C_of (by decide) rfl (Nat.le_of_ble_eq_true rfl) hT ?_
  refine ab_iload_n (i := 1) d_Lat_charAt_0 rfl rfl ?_
  refine ab_aload_n (i := 0) d_Lat_charAt_1 rfl rfl ?_
  refine ab_sblen (j := j) (v := (Int32.ofNat (ab_slen.getD j 0))) d_Lat_charAt_2 hj rfl ?_
  have hC : ab_C w (d + 1) mt_Str_checkIndex [.int (nI i), .int (Int32.ofNat (ab_slen.getD j 0))] (I, L, ab_RR, n, nc, ns) (.inl none, (I, L, ab_RR, n + 1, nc, ns)) := k_strIndex hT (nI_pos (by omega)) (by rw [l2]; exact (nI_ltI (by omega) (by omega)).mpr hi)
  refine ab_callS (me2 := mt_Str_checkIndex) (as := [.int (nI i), .int (Int32.ofNat (ab_slen.getD j 0))]) (st := []) (rv := none) (M2 := (I, L, ab_RR, n + 1, nc, ns)) d_Lat_charAt_3 ce_Str_checkIndex ⟨v_855, Or.inl v_854⟩ (Nat.le_of_ble_eq_true rfl) hC (Nat.le_refl _) (Nat.le_refl _) (Nat.le_refl _) (Nat.le_refl _) (fun j h9 => by cases h9) (fun _ _ => rfl) ?_
  show ab_E w (d + 2) mt_Lat_charAt 6 [.ref (64 * j + 33), .int (nI i)] [] (I, L, ab_RR, n, nc, ns) _
  refine ab_aload_n (i := 0) d_Lat_charAt_6 rfl rfl ?_
  refine ab_iload_n (i := 1) d_Lat_charAt_7 rfl rfl ?_
  refine ab_sbald (j := j) d_Lat_charAt_8 hj (by rw [l2]; exact vp_in_nI hi (by omega)) ?_
  rw [nI_clamp (by omega)]
  refine ab_sipush (v := 255) d_Lat_charAt_9 rfl ?_
  refine ab_iand d_Lat_charAt_12 ?_
  refine ab_i2c (v := nI ((wdS j).getD i 0)) d_Lat_charAt_13 a1 ?_
  exact ab_iret (ty := .char) d_Lat_charAt_14 rfl a2 rfl
theorem k_charAt (hT : w.1.stackTraces = false) {j i : Nat} (hj : j < 8) (hi : i < (wdS j).length) : ab_C w (d + 3) mt_Str_charAt [.ref (64 * j + 32), .int (nI i)] (I, L, ab_RR, n, nc, ns) (.inl (some (.int (nI ((wdS j).getD i 0)))), (I, L, ab_RR, n, nc, ns)) := by
  obtain ⟨l1, l2, l3⟩ := wd_len j hj
  obtain ⟨a1, a2, a3⟩ := wd_at j hj i (by omega) hi
  have lat1 : ab_C w (d + 2) mt_Str_isLatin1 [.ref (64 * j + 32)] (I, L, ab_RR, n, nc, ns) (.inl (some (.int 1)), (I, L, ab_RR, n, nc, ns)) := by
    refine ab_C_of (by decide) rfl (Nat.le_of_ble_eq_true rfl) hT ?_
    exact r_Str_isLatin1_0 hT hj (Nat.le_refl _) (Nat.le_refl _) rfl
  refine ab_C_of (by decide) rfl (Nat.le_of_ble_eq_true rfl) hT ?_
  refine r_Str_charAt_0 hT hj _ (Nat.le_refl _) (Nat.le_refl _) ?_
  exact ⟨1, lat1, bb_f (by decide) ⟨_, k_latAt hT hj hi, a2, rfl⟩⟩
theorem k_strLen (hT : w.1.stackTraces = false) {j : Nat} (hj : j < 8) : ab_C w (d + 1) mt_Str_length [.ref (64 * j + 32)] (I, L, ab_RR, n, nc, ns) (.inl (some (.int (nI (wdS j).length))), (I, L, ab_RR, n, nc, ns)) := by
  obtain ⟨l1, l2, l3⟩ := wd_len j hj
  have cod : ab_C w d mt_Str_coder [.ref (64 * j + 32)] (I, L, ab_RR, n, nc, ns) (.inl (some (.int 0)), (I, L, ab_RR, n, nc, ns)) := by
    refine ab_C_of (by decide) rfl (Nat.le_of_ble_eq_true rfl) hT ?_
    exact r_Str_coder_0 hT hj (Nat.le_refl _) (Nat.le_refl _) rfl
  refine ab_C_of (by decide) rfl (Nat.le_of_ble_eq_true rfl) hT ?_
  refine r_Str_length_0 hT hj (Nat.le_refl _) (Nat.le_refl _) ?_
  refine ⟨0, cod, ?_⟩
  rw [l1]
end WR2
