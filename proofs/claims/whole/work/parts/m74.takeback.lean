/-! UNDO: the class takes an act back -/
section TKB
variable {w : ab_Wd} {d n nc ns : Nat} {I : Nat → Nat → Int32} {L : Nat → Nat → Int64}
variable {S N : Nat} {sd : Nat → Bool} {e1 e2 pr fm : Nat → Nat} {l : List Nat}
theorem k_takeBack (hT : w.1.stackTraces = false) (hc : kC I S N sd e1 e2 pr fm l) {o m : Nat} {ac : Nat → Ac} (ha : aK I o (m + 1) ac) (hN : (ac m).1 ≤ N) (hs : ∀ k, (ac m).2.1 k = true → k < (ac m).1) (hp : ∀ k, k < (ac m).1 → 1 ≤ (ac m).2.2.1 k ∧ (ac m).2.2.1 k ≤ 999) :
    ∃ J l', od (ac m).2.2.1 (ac m).1 l' ∧ kC J S (ac m).1 (ac m).2.1 e1 e2 (ac m).2.2.1 fm l' ∧ aK J o m ac ∧ (∀ c, c ≠ kx_now_acts → c ≠ kx_now_cables → c ≠ kx_now_cables_price → c ≠ kx_now_cables_order → J c = I c) ∧ ab_PU w (d + 1) mt_Acts_takeBack [.ref kx_now_acts, .ref kx_now_cables] I L n nc ns (nI (ac m).2.2.2) J := by
  obtain ⟨⟨p1, p2, p3, p4, p5, p6, p7, p8⟩, c2, c3, c4, c5, c6⟩ := hc
  obtain ⟨h1, h2, h3, h4, h5⟩ := id ha
  obtain ⟨g1, g2, g3, g4, g5⟩ := h5 m (by omega)
  have em : ab_max32 0 (nI (m + 1) - 1) = nI m := by
    rw [show (1 : Int32) = nI 1 from rfl, nI_sub (by omega)]
    unfold ab_max32
    by_cases e : m = 0
    · subst e; rfl
    · rw [if_pos (show (0 : Int32) < nI (m + 1 - 1) from (nI_ltI (a := 0) (b := m + 1 - 1) (by omega) (by omega)).mpr (by omega))]; rfl
  have ep : (nI o + nI m) - (nI o + nI m) / 40 * 40 = nI ((o + m) % 40) := by
    rw [nI_add]; exact nI_rem (b := 40) (by omega) (by omega)
  have hpl : (o + m) % 40 < 40 := Nat.mod_lt _ (by omega)
  generalize hP : (o + m) % 40 = P at *
  have I1 : ∃ K, K = ab_up (ab_up (ab_row (ab_up I kx_now_acts 5 (nI m)) kx_now_cables_price (va_cpy (I kx_now_acts_prices) (I kx_now_cables_price) (P * 24) 0 24)) kx_now_cables 1 (I kx_now_acts_counts P)) kx_now_cables 2 (I kx_now_acts_sounds P) := ⟨_, rfl⟩
  obtain ⟨K, hK⟩ := I1
  have i0 : K kx_now_cables 0 = nI S := by rw [hK]; simp (disch := first | omega | decide) only [p1, nl_add1, nl_add2, nl_mul1, nl_mul2, nl_sub1, nl_lt1, nl_lt2, nl_le1, nl_le2, nl_eq1, nl_eq2, nl_m1, nl_m2, nl_inT, nI_add, nI_mul, nI_leI, nI_ltI, nI_eq, nI_clamp, nl_bit, oI_n, oI_s, oI_m1, true_and, and_true, eq_self, Bool.false_eq_true, not_false_eq_true, not_true_eq_false, false_implies, true_implies, implies_true, forall_const, Nat.not_lt_zero, ab_row_eq, ab_row_ne, ab_up_i, ab_up_o, pk_us, pk_un, ab_row_row]
  have i1 : K kx_now_cables 1 = nI (ac m).1 := by rw [hK]; simp (disch := first | omega | decide) only [g1, nl_add1, nl_add2, nl_mul1, nl_mul2, nl_sub1, nl_lt1, nl_lt2, nl_le1, nl_le2, nl_eq1, nl_eq2, nl_m1, nl_m2, nl_inT, nI_add, nI_mul, nI_leI, nI_ltI, nI_eq, nI_clamp, nl_bit, oI_n, oI_s, oI_m1, true_and, and_true, eq_self, Bool.false_eq_true, not_false_eq_true, not_true_eq_false, false_implies, true_implies, implies_true, forall_const, Nat.not_lt_zero, ab_row_eq, ab_row_ne, ab_up_i, ab_up_o, pk_us, pk_un, ab_row_row]
  have i2 : K kx_now_cables 2 = I kx_now_acts_sounds P := by rw [hK]; simp (disch := first | omega | decide) only [nl_add1, nl_add2, nl_mul1, nl_mul2, nl_sub1, nl_lt1, nl_lt2, nl_le1, nl_le2, nl_eq1, nl_eq2, nl_m1, nl_m2, nl_inT, nI_add, nI_mul, nI_leI, nI_ltI, nI_eq, nI_clamp, nl_bit, oI_n, oI_s, oI_m1, true_and, and_true, eq_self, Bool.false_eq_true, not_false_eq_true, not_true_eq_false, false_implies, true_implies, implies_true, forall_const, Nat.not_lt_zero, ab_row_eq, ab_row_ne, ab_up_i, ab_up_o, pk_us, pk_un, ab_row_row]
  have ipr : K kx_now_cables_price = va_cpy (I kx_now_acts_prices) (I kx_now_cables_price) (P * 24) 0 24 := by rw [hK]; simp (disch := first | omega | decide) only [nl_add1, nl_add2, nl_mul1, nl_mul2, nl_sub1, nl_lt1, nl_lt2, nl_le1, nl_le2, nl_eq1, nl_eq2, nl_m1, nl_m2, nl_inT, nI_add, nI_mul, nI_leI, nI_ltI, nI_eq, nI_clamp, nl_bit, oI_n, oI_s, oI_m1, true_and, and_true, eq_self, Bool.false_eq_true, not_false_eq_true, not_true_eq_false, false_implies, true_implies, implies_true, forall_const, Nat.not_lt_zero, ab_row_eq, ab_row_ne, ab_up_i, ab_up_o, pk_us, pk_un, ab_row_row]
  have ioth : ∀ c, c ≠ kx_now_acts → c ≠ kx_now_cables → c ≠ kx_now_cables_price → K c = I c := fun c a1 a2 a3 => by
    rw [hK, ab_up_o a2, ab_up_o a2, ab_row_ne a3, ab_up_o a1]
  have hpr : ∀ k, k < (ac m).1 → K kx_now_cables_price k = nI ((ac m).2.2.1 k) ∧ (ac m).2.2.1 k ≤ 999 := fun k hk => by
    refine ⟨?_, (hp k hk).2⟩
    rw [ipr]
    unfold va_cpy
    rw [if_pos (by omega), show P * 24 + (k - 0) = P * 24 + k by omega]
    exact g3 k hk
  obtain ⟨g, l', s1, s2, s3, s4⟩ := s0_ok (d := d) (I := K) (w := w) (n := n) (nc := nc) (ns := ns) (L := L) hT i1 g5 hpr
  refine ⟨ab_row K kx_now_cables_order g, l', s1, ⟨⟨?_, ?_, p3, g5, od_len s1, fun i hi => ?_, fun j hj => (s1.2 j).mp hj, fun j hj => ?_⟩, s1, c3, fun j hj => ?_, hs, fun j hj => ?_⟩, ⟨?_, h2, ?_, by omega, fun a hlt => ?_⟩, fun c a1 a2 a3 a4 => ?_, ?_⟩
  · rw [ab_row_ne (by decide)]; exact i0
  · rw [ab_row_ne (by decide)]; exact i1
  · rw [ab_row_eq]; exact s2 i hi
  · obtain ⟨q1, q2, q3, q4, q5, q6⟩ := p8 j (by omega)
    rw [ab_row_ne (by decide), ab_row_ne (by decide), ab_row_ne (by decide), ioth kx_now_cables_first (by decide) (by decide) (by decide), ioth kx_now_cables_second (by decide) (by decide) (by decide)]
    exact ⟨q1, q2, (hpr j hj).1, q4, q5, (hpr j hj).2⟩
  · rw [ab_row_ne (by decide), i2]; exact g2 j hj
  · obtain ⟨q1, q2, q3, q4⟩ := c6 j (by omega)
    rw [ab_row_ne (by decide), ioth kx_now_cables_firm (by decide) (by decide) (by decide)]
    exact ⟨q1, q2, (hp j hj).1, q4⟩
  · rw [ab_row_ne (by decide), hK]; simp (disch := first | omega | decide) only [h1, nl_add1, nl_add2, nl_mul1, nl_mul2, nl_sub1, nl_lt1, nl_lt2, nl_le1, nl_le2, nl_eq1, nl_eq2, nl_m1, nl_m2, nl_inT, nI_add, nI_mul, nI_leI, nI_ltI, nI_eq, nI_clamp, nl_bit, oI_n, oI_s, oI_m1, true_and, and_true, eq_self, Bool.false_eq_true, not_false_eq_true, not_true_eq_false, false_implies, true_implies, implies_true, forall_const, Nat.not_lt_zero, ab_row_eq, ab_row_ne, ab_up_i, ab_up_o, pk_us, pk_un, ab_row_row]
  · rw [ab_row_ne (by decide), hK]; simp (disch := first | omega | decide) only [nl_add1, nl_add2, nl_mul1, nl_mul2, nl_sub1, nl_lt1, nl_lt2, nl_le1, nl_le2, nl_eq1, nl_eq2, nl_m1, nl_m2, nl_inT, nI_add, nI_mul, nI_leI, nI_ltI, nI_eq, nI_clamp, nl_bit, oI_n, oI_s, oI_m1, true_and, and_true, eq_self, Bool.false_eq_true, not_false_eq_true, not_true_eq_false, false_implies, true_implies, implies_true, forall_const, Nat.not_lt_zero, ab_row_eq, ab_row_ne, ab_up_i, ab_up_o, pk_us, pk_un, ab_row_row]
  · rw [ab_row_ne (by decide), ab_row_ne (by decide), ab_row_ne (by decide), ab_row_ne (by decide), ioth kx_now_acts_counts (by decide) (by decide) (by decide), ioth kx_now_acts_sounds (by decide) (by decide) (by decide), ioth kx_now_acts_prices (by decide) (by decide) (by decide), ioth kx_now_acts_swaps (by decide) (by decide) (by decide)]
    exact h5 a (by omega)
  · rw [ab_row_ne a4]; exact ioth c a1 a2 a3
  · refine ab_C_of (by decide) rfl (Nat.le_of_ble_eq_true rfl) hT ?_
    refine r_Acts_takeBack_0 hT (Nat.le_refl _) (Nat.le_refl _) ?_
    rw [h3, h1, em, ep, nl_mul1, nI_clamp (by omega), nI_clamp (by omega), ← hK]
    refine ⟨nI_pos (by omega), by omega, vp_in_nI (by omega) (by omega), _, s4, ?_⟩
    rw [ab_row_ne (by decide), ioth kx_now_acts_swaps (by decide) (by decide) (by decide), g4]
end TKB
