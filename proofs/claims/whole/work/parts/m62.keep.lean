/-! KEEP: the acts that may be undone -/
/-- an act that is kept: how many cables, which are sound, their prices, the swaps so far -/
def ct (N : Nat) (sd : Nat → Bool) (pr : Nat → Nat) (E : Nat) : Nat × (Nat → Bool) × (Nat → Nat) × Nat := (N, sd, pr, E)
/-- the acts in the class's cells, the oldest first -/
def aK (I : Nat → Nat → Int32) (o m : Nat) (ac : Nat → Nat × (Nat → Bool) × (Nat → Nat) × Nat) : Prop := I kx_now_acts 4 = nI o ∧ o < 40 ∧ I kx_now_acts 5 = nI m ∧ m ≤ 40 ∧ ∀ a, a < m → I kx_now_acts_counts ((o + a) % 40) = nI (ac a).1 ∧ (∀ k, k < 32 → bt (I kx_now_acts_sounds ((o + a) % 40)) k = (ac a).2.1 k) ∧ (∀ k, k < (ac a).1 → I kx_now_acts_prices ((o + a) % 40 * 24 + k) = nI ((ac a).2.2.1 k)) ∧ I kx_now_acts_swaps ((o + a) % 40) = nI (ac a).2.2.2 ∧ (ac a).1 ≤ 24
/-- the acts in the model's cells -/
def aM (I : Nat → Nat → Int32) (m : Nat) (rw : Nat → Nat → Int32) : Prop := I mx 41 = nI m ∧ m ≤ 40 ∧ ∀ a, a < m → ∀ j, j < 399 → I mx_past (399 * a + j) = rw a j
def aNx {α : Type} (m : Nat) (ac : Nat → α) (x : α) : Nat → α := if m = 40 then fun a => if a < 39 then ac (a + 1) else x else fun a => if a < m then ac a else x
def akf (J I : Nat → Nat → Int32) : Prop := ∀ c, c ≠ kx_now_acts → c ≠ kx_now_acts_prices → c ≠ kx_now_acts_counts → c ≠ kx_now_acts_sounds → c ≠ kx_now_acts_swaps → J c = I c
section KEP
variable {w : ab_Wd} {d n nc ns : Nat} {I : Nat → Nat → Int32} {L : Nat → Nat → Int64}
variable {S N : Nat} {sd : Nat → Bool} {e1 e2 pr fm : Nat → Nat} {l : List Nat}
/-- one more act is written -/
theorem aK_put (hc : kC I S N sd e1 e2 pr fm l) {I0 : Nat → Nat → Int32} {o m E : Nat} {ac : Nat → Nat × (Nat → Bool) × (Nat → Nat) × Nat} (h : aK I0 o m ac) (hm : m < 40) {J : Nat → Nat → Int32} {x : Int32} (hx : x = nI (m + 1)) (hv : I kx_now_swaps 1 = nI E) (j4 : J kx_now_acts 4 = nI o) (j5 : J kx_now_acts 5 = x)
    (jp : J kx_now_acts_prices = va_cpy (I kx_now_cables_price) (I0 kx_now_acts_prices) 0 ((o + m) % 40 * 24) 24) (jc : J kx_now_acts_counts = upd (I0 kx_now_acts_counts) ((o + m) % 40) (I kx_now_cables 1)) (js : J kx_now_acts_sounds = upd (I0 kx_now_acts_sounds) ((o + m) % 40) (I kx_now_cables 2)) (jw : J kx_now_acts_swaps = upd (I0 kx_now_acts_swaps) ((o + m) % 40) (I kx_now_swaps 1)) : aK J o (m + 1) (fun a => if a < m then ac a else ct N sd pr E) := by
  obtain ⟨h1, h2, h3, h4, h5⟩ := h
  have p4 := hc.1.2.2.2.1
  refine ⟨j4, h2, by rw [j5, hx], by omega, fun a ha => ?_⟩
  by_cases e : a < m
  · have ne : (o + a) % 40 ≠ (o + m) % 40 := by omega
    obtain ⟨g1, g2, g3, g4, g5⟩ := h5 a e
    have eq : (fun a => if a < m then ac a else ct N sd pr E) a = ac a := if_pos e
    rw [jp, jc, js, jw, pk_un ne, pk_un ne, pk_un ne, eq]
    refine ⟨g1, g2, fun k hk => ?_, g4, g5⟩
    unfold va_cpy
    rw [if_neg (by omega)]
    exact g3 k hk
  · have ea : a = m := by omega
    subst ea
    have eq : (fun a' => if a' < a then ac a' else ct N sd pr E) a = ct N sd pr E := if_neg e
    rw [jp, jc, js, jw, pk_us, pk_us, pk_us, eq]
    refine ⟨hc.1.2.1, hc.2.2.2.1, fun k hk => ?_, hv, p4⟩
    have hk : k < N := hk
    unfold va_cpy
    rw [if_pos (by omega), show 0 + ((o + a) % 40 * 24 + k - (o + a) % 40 * 24) = k by omega]
    exact (hc.1.2.2.2.2.2.2.2 k hk).2.2.1
theorem k_keepAct (hT : w.1.stackTraces = false) (hc : kC I S N sd e1 e2 pr fm l) {o m E : Nat} {ac : Nat → Nat × (Nat → Bool) × (Nat → Nat) × Nat} (h : aK I o m ac) (hE : I kx_now_swaps 1 = nI E) : ∃ J o', akf J I ∧ aK J o' (min (m + 1) 40) (aNx m ac (ct N sd pr E)) ∧ ab_U w (d + 2) mt_State_keepAct [.ref kx_now] I L n nc ns J := by
  obtain ⟨h1, h2, h3, h4, h5⟩ := id h
  by_cases hm : m = 40
  · subst hm
    have eo : (nI o + 1) - (nI o + 1) / 40 * 40 = nI ((o + 1) % 40) := by
      rw [nI_1]; exact nI_rem (b := 40) (by omega) (by omega)
    have em : nI 40 - 1 = nI 39 := by decide
    have ep : (nI ((o + 1) % 40) + nI 39) - (nI ((o + 1) % 40) + nI 39) / 40 * 40 = nI (((o + 1) % 40 + 39) % 40) := by
      rw [nI_add]; exact nI_rem (b := 40) (by omega) (by omega)
    have hpl : ((o + 1) % 40 + 39) % 40 < 40 := Nat.mod_lt _ (by omega)
    have h' : aK (ab_up (ab_up I kx_now_acts 4 (nI ((o + 1) % 40))) kx_now_acts 5 (nI 39)) ((o + 1) % 40) 39 (fun a => ac (a + 1)) := by
      refine ⟨by rw [ab_up_i, pk_un (by omega), ab_up_i, pk_us], by omega, by rw [ab_up_i, pk_us], by omega, fun a ha => ?_⟩
      have e : ((o + 1) % 40 + a) % 40 = (o + (a + 1)) % 40 := by omega
      rw [e]
      rw [ab_up_o (by decide), ab_up_o (by decide), ab_up_o (by decide), ab_up_o (by decide), ab_up_o (by decide), ab_up_o (by decide), ab_up_o (by decide), ab_up_o (by decide)]
      exact h5 (a + 1) (by omega)
    have fin : ∀ J, J = ab_up (ab_up (ab_up (ab_up (ab_row (ab_up (ab_up I kx_now_acts 4 (nI ((o + 1) % 40))) kx_now_acts 5 (nI 39)) kx_now_acts_prices (va_cpy (I kx_now_cables_price) (I kx_now_acts_prices) 0 (((o + 1) % 40 + 39) % 40 * 24) 24)) kx_now_acts_counts (((o + 1) % 40 + 39) % 40) (I kx_now_cables 1)) kx_now_acts_sounds (((o + 1) % 40 + 39) % 40) (I kx_now_cables 2)) kx_now_acts_swaps (((o + 1) % 40 + 39) % 40) (I kx_now_swaps 1)) kx_now_acts 5 (nI 39 + 1) → akf J I ∧ aK J ((o + 1) % 40) (min (40 + 1) 40) (aNx 40 ac (ct N sd pr E)) := by
      intro J hJ
      constructor
      · intro c c1 c2 c3 c4 c5
        rw [hJ, ab_up_o c1, ab_up_o c5, ab_up_o c4, ab_up_o c3, ab_row_ne c2, ab_up_o c1, ab_up_o c1]
      · have := aK_put hc h' (by omega) (J := J) (x := nI 39 + 1) (E := E) (by decide) hE (by
          rw [hJ, ab_up_i, pk_un (by omega)]; simp (disch := first | omega | decide) only [nl_add1, nl_add2, nl_mul1, nl_mul2, nl_sub1, nl_lt1, nl_lt2, nl_le1, nl_le2, nl_eq1, nl_eq2, nl_m1, nl_m2, nl_inT, nI_add, nI_mul, nI_leI, nI_ltI, nI_eq, nI_clamp, nl_bit, oI_n, oI_s, oI_m1, true_and, and_true, eq_self, Bool.false_eq_true, not_false_eq_true, not_true_eq_false, false_implies, true_implies, implies_true, forall_const, Nat.not_lt_zero, ab_row_eq, ab_row_ne, ab_up_i, ab_up_o, pk_us, pk_un, ab_row_row]) (by rw [hJ, ab_up_i, pk_us]) (by rw [hJ]; simp (disch := first | omega | decide) only [nl_add1, nl_add2, nl_mul1, nl_mul2, nl_sub1, nl_lt1, nl_lt2, nl_le1, nl_le2, nl_eq1, nl_eq2, nl_m1, nl_m2, nl_inT, nI_add, nI_mul, nI_leI, nI_ltI, nI_eq, nI_clamp, nl_bit, oI_n, oI_s, oI_m1, true_and, and_true, eq_self, Bool.false_eq_true, not_false_eq_true, not_true_eq_false, false_implies, true_implies, implies_true, forall_const, Nat.not_lt_zero, ab_row_eq, ab_row_ne, ab_up_i, ab_up_o, pk_us, pk_un, ab_row_row]) (by rw [hJ]; simp (disch := first | omega | decide) only [nl_add1, nl_add2, nl_mul1, nl_mul2, nl_sub1, nl_lt1, nl_lt2, nl_le1, nl_le2, nl_eq1, nl_eq2, nl_m1, nl_m2, nl_inT, nI_add, nI_mul, nI_leI, nI_ltI, nI_eq, nI_clamp, nl_bit, oI_n, oI_s, oI_m1, true_and, and_true, eq_self, Bool.false_eq_true, not_false_eq_true, not_true_eq_false, false_implies, true_implies, implies_true, forall_const, Nat.not_lt_zero, ab_row_eq, ab_row_ne, ab_up_i, ab_up_o, pk_us, pk_un, ab_row_row]) (by rw [hJ]; simp (disch := first | omega | decide) only [nl_add1, nl_add2, nl_mul1, nl_mul2, nl_sub1, nl_lt1, nl_lt2, nl_le1, nl_le2, nl_eq1, nl_eq2, nl_m1, nl_m2, nl_inT, nI_add, nI_mul, nI_leI, nI_ltI, nI_eq, nI_clamp, nl_bit, oI_n, oI_s, oI_m1, true_and, and_true, eq_self, Bool.false_eq_true, not_false_eq_true, not_true_eq_false, false_implies, true_implies, implies_true, forall_const, Nat.not_lt_zero, ab_row_eq, ab_row_ne, ab_up_i, ab_up_o, pk_us, pk_un, ab_row_row]) (by rw [hJ]; simp (disch := first | omega | decide) only [nl_add1, nl_add2, nl_mul1, nl_mul2, nl_sub1, nl_lt1, nl_lt2, nl_le1, nl_le2, nl_eq1, nl_eq2, nl_m1, nl_m2, nl_inT, nI_add, nI_mul, nI_leI, nI_ltI, nI_eq, nI_clamp, nl_bit, oI_n, oI_s, oI_m1, true_and, and_true, eq_self, Bool.false_eq_true, not_false_eq_true, not_true_eq_false, false_implies, true_implies, implies_true, forall_const, Nat.not_lt_zero, ab_row_eq, ab_row_ne, ab_up_i, ab_up_o, pk_us, pk_un, ab_row_row])
        unfold aNx
        rw [if_pos rfl]
        exact this
    obtain ⟨f1, f2⟩ := fin _ rfl
    refine ⟨_, _, f1, f2, ?_⟩
    refine ab_C_of (by decide) rfl (Nat.le_of_ble_eq_true rfl) hT ?_
    refine r_State_keepAct_0 hT (Nat.le_refl _) (Nat.le_refl _) ?_
    refine ⟨_, ?_, rfl⟩
    refine ab_C_of (by decide) rfl (Nat.le_of_ble_eq_true rfl) hT ?_
    refine r_Acts_keep_0 hT _ (Nat.le_refl _) (Nat.le_refl _) ?_
    rw [h3, h1, eo, em, ep]
    refine bb_t' rfl ?_
    rw [nl_mul1, nI_clamp (by omega), nI_clamp (by omega)]
    exact ⟨nI_pos (by omega), by omega, vp_in_nI (by omega) (by omega), rfl⟩
  · have ep : (nI o + nI m) - (nI o + nI m) / 40 * 40 = nI ((o + m) % 40) := by
      rw [nI_add]; exact nI_rem (b := 40) (by omega) (by omega)
    have hpl : (o + m) % 40 < 40 := Nat.mod_lt _ (by omega)
    have fin : ∀ J, J = ab_up (ab_up (ab_up (ab_up (ab_row I kx_now_acts_prices (va_cpy (I kx_now_cables_price) (I kx_now_acts_prices) 0 ((o + m) % 40 * 24) 24)) kx_now_acts_counts ((o + m) % 40) (I kx_now_cables 1)) kx_now_acts_sounds ((o + m) % 40) (I kx_now_cables 2)) kx_now_acts_swaps ((o + m) % 40) (I kx_now_swaps 1)) kx_now_acts 5 (nI m + 1) → akf J I ∧ aK J o (min (m + 1) 40) (aNx m ac (ct N sd pr E)) := by
      intro J hJ
      constructor
      · intro c c1 c2 c3 c4 c5
        rw [hJ, ab_up_o c1, ab_up_o c5, ab_up_o c4, ab_up_o c3, ab_row_ne c2]
      · have := aK_put hc h (by omega) (J := J) (x := nI m + 1) (E := E) (nI_1 m) hE (by
          rw [hJ, ab_up_i, pk_un (by omega)]; simp (disch := first | omega | decide) only [h1, nl_add1, nl_add2, nl_mul1, nl_mul2, nl_sub1, nl_lt1, nl_lt2, nl_le1, nl_le2, nl_eq1, nl_eq2, nl_m1, nl_m2, nl_inT, nI_add, nI_mul, nI_leI, nI_ltI, nI_eq, nI_clamp, nl_bit, oI_n, oI_s, oI_m1, true_and, and_true, eq_self, Bool.false_eq_true, not_false_eq_true, not_true_eq_false, false_implies, true_implies, implies_true, forall_const, Nat.not_lt_zero, ab_row_eq, ab_row_ne, ab_up_i, ab_up_o, pk_us, pk_un, ab_row_row]) (by rw [hJ, ab_up_i, pk_us]) (by rw [hJ]; simp (disch := first | omega | decide) only [nl_add1, nl_add2, nl_mul1, nl_mul2, nl_sub1, nl_lt1, nl_lt2, nl_le1, nl_le2, nl_eq1, nl_eq2, nl_m1, nl_m2, nl_inT, nI_add, nI_mul, nI_leI, nI_ltI, nI_eq, nI_clamp, nl_bit, oI_n, oI_s, oI_m1, true_and, and_true, eq_self, Bool.false_eq_true, not_false_eq_true, not_true_eq_false, false_implies, true_implies, implies_true, forall_const, Nat.not_lt_zero, ab_row_eq, ab_row_ne, ab_up_i, ab_up_o, pk_us, pk_un, ab_row_row]) (by rw [hJ]; simp (disch := first | omega | decide) only [nl_add1, nl_add2, nl_mul1, nl_mul2, nl_sub1, nl_lt1, nl_lt2, nl_le1, nl_le2, nl_eq1, nl_eq2, nl_m1, nl_m2, nl_inT, nI_add, nI_mul, nI_leI, nI_ltI, nI_eq, nI_clamp, nl_bit, oI_n, oI_s, oI_m1, true_and, and_true, eq_self, Bool.false_eq_true, not_false_eq_true, not_true_eq_false, false_implies, true_implies, implies_true, forall_const, Nat.not_lt_zero, ab_row_eq, ab_row_ne, ab_up_i, ab_up_o, pk_us, pk_un, ab_row_row]) (by rw [hJ]; simp (disch := first | omega | decide) only [nl_add1, nl_add2, nl_mul1, nl_mul2, nl_sub1, nl_lt1, nl_lt2, nl_le1, nl_le2, nl_eq1, nl_eq2, nl_m1, nl_m2, nl_inT, nI_add, nI_mul, nI_leI, nI_ltI, nI_eq, nI_clamp, nl_bit, oI_n, oI_s, oI_m1, true_and, and_true, eq_self, Bool.false_eq_true, not_false_eq_true, not_true_eq_false, false_implies, true_implies, implies_true, forall_const, Nat.not_lt_zero, ab_row_eq, ab_row_ne, ab_up_i, ab_up_o, pk_us, pk_un, ab_row_row]) (by rw [hJ]; simp (disch := first | omega | decide) only [nl_add1, nl_add2, nl_mul1, nl_mul2, nl_sub1, nl_lt1, nl_lt2, nl_le1, nl_le2, nl_eq1, nl_eq2, nl_m1, nl_m2, nl_inT, nI_add, nI_mul, nI_leI, nI_ltI, nI_eq, nI_clamp, nl_bit, oI_n, oI_s, oI_m1, true_and, and_true, eq_self, Bool.false_eq_true, not_false_eq_true, not_true_eq_false, false_implies, true_implies, implies_true, forall_const, Nat.not_lt_zero, ab_row_eq, ab_row_ne, ab_up_i, ab_up_o, pk_us, pk_un, ab_row_row])
        unfold aNx
        rw [if_neg hm, Nat.min_eq_left (by omega)]
        exact this
    obtain ⟨f1, f2⟩ := fin _ rfl
    refine ⟨_, _, f1, f2, ?_⟩
    refine ab_C_of (by decide) rfl (Nat.le_of_ble_eq_true rfl) hT ?_
    refine r_State_keepAct_0 hT (Nat.le_refl _) (Nat.le_refl _) ?_
    refine ⟨_, ?_, rfl⟩
    refine ab_C_of (by decide) rfl (Nat.le_of_ble_eq_true rfl) hT ?_
    refine r_Acts_keep_0 hT _ (Nat.le_refl _) (Nat.le_refl _) ?_
    rw [h3, h1, ep]
    refine bb_f' (fun h => hm ((nI_eq (b := 40) (by omega) (by omega)).mp h)) ?_
    rw [nl_mul1, nI_clamp (by omega), nI_clamp (by omega)]
    exact ⟨nI_pos (by omega), by omega, vp_in_nI (by omega) (by omega), rfl⟩
end KEP
