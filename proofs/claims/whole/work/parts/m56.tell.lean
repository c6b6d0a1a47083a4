/-! TOLD: the text of the cables -/
def dgs (a : Nat) : List Nat := if a ≤ 9 then [48 + a] else if a ≤ 99 then [48 + a / 10, 48 + a % 10] else [48 + a / 100, 48 + a / 10 % 10, 48 + a % 10]
theorem dgs_rec : ∀ a, a < 1000 → (9 < a → dgs a = dgs (a / 10) ++ [48 + a % 10]) ∧ (a ≤ 9 → dgs a = [48 + a % 10]) := by decide +kernel
theorem dgs_len : ∀ a, a < 1000 → (dgs a).length ≤ 3 ∧ (a ≤ 99 → (dgs a).length ≤ 2) ∧ (a ≤ 9 → (dgs a).length ≤ 1) := by decide +kernel
theorem dg_ops : ∀ a, a < 1000 → nI a / 10 = nI (a / 10) ∧ nI a / 100 = nI (a / 100) ∧ 48 + (nI a - nI a / 10 * 10) = nI (48 + a % 10) ∧ 48 + (nI a / 10 - nI a / 10 / 10 * 10) = nI (48 + a / 10 % 10) ∧ (48 : Int32) + nI a / 100 = nI (48 + a / 100) := by decide +kernel
theorem nar_b : ∀ s, s < 128 → vp_nar .byte (ab_i2b8 (nI s)) = nI s := by decide +kernel
/-- the class's text so far -/
def tS (J : Nat → Nat → Int32) (t : List Nat) : Prop := J kx_teller 1 = nI t.length ∧ ∀ j, j < t.length → J kx_teller_text j = nI (t.getD j 0)
theorem tS_put {J : Nat → Nat → Int32} {t : List Nat} {s : Nat} (h : tS J t) : tS (ab_up (ab_up J kx_teller_text t.length (nI s)) kx_teller 1 (nI (t.length + 1))) (t ++ [s]) := by
  refine ⟨by rw [ab_up_i, pk_us, List.length_append]; rfl, fun j hj => ?_⟩
  rw [ab_up_o (by decide), ab_up_i]
  rw [List.length_append] at hj
  have hj : j < t.length + 1 := hj
  by_cases e : j = t.length
  · subst e
    rw [pk_us, List.getD_eq_getElem?_getD, List.getElem?_append_right (Nat.le_refl _)]
    simp
  · rw [pk_un e, h.2 j (by omega), List.getD_eq_getElem?_getD, List.getD_eq_getElem?_getD, List.getElem?_append_left (by omega)]
def tfr (J I : Nat → Nat → Int32) : Prop := ∀ c, c ≠ kx_teller → c ≠ kx_teller_text → J c = I c
theorem tfr_put {J I : Nat → Nat → Int32} {k : Nat} {x y : Int32} (h : tfr J I) : tfr (ab_up (ab_up J kx_teller_text k x) kx_teller 1 y) I := fun c h1 h2 => by rw [ab_up_o h1, ab_up_o h2]; exact h c h1 h2
theorem tfr_trans {K J I : Nat → Nat → Int32} (h : tfr K J) (g : tfr J I) : tfr K I := fun c h1 h2 => (h c h1 h2).trans (g c h1 h2)
section TEL
variable {w : ab_Wd} {d n nc ns : Nat} {I : Nat → Nat → Int32} {L : Nat → Nat → Int64}
variable {S N : Nat} {sd : Nat → Bool} {e1 e2 pr fm : Nat → Nat} {l : List Nat}
theorem k_putS (hT : w.1.stackTraces = false) {j : Nat} (hj : j < 8) {t : List Nat} (ht : tS I t) (hl : t.length + 7 ≤ 700) : ∃ J, tfr J I ∧ tS J (t ++ wdS j) ∧ ab_U w (d + 4) mt_Teller_put_S [.ref kx_teller, .ref (64 * j + 32)] I L n nc ns J := by
  obtain ⟨l1, l2, l3⟩ := wd_len j hj
  have loop : ∀ m i (K : Nat → Nat → Int32), i + m = (wdS j).length → tfr K I → tS K (t ++ (wdS j).take i) → ∃ J, tfr J I ∧ tS J (t ++ wdS j) ∧ ab_E w (d + 4) mt_Teller_put_S 2 [.ref kx_teller, .ref (64 * j + 32), .int (nI i)] [] (K, L, ab_RR, n, nc, ns) (.inl none, (J, L, ab_RR, n, nc, ns)) := by
    intro m
    induction m with
    | zero =>
      intro i K hi h1 h2
      rw [List.take_of_length_le (by omega)] at h2
      refine ⟨K, h1, h2, ?_⟩
      refine r_Teller_put_S_2 hT hj _ (Nat.le_refl _) (Nat.le_refl _) ?_
      exact ⟨_, k_strLen (d := d + 2) hT hj, bb_t (nI_le (by omega) (by omega)) rfl⟩
    | succ m ih =>
      intro i K hi h1 h2
      obtain ⟨a1, a2, a3⟩ := wd_at j hj i (by omega) (by omega)
      have hlen : (t ++ (wdS j).take i).length = t.length + i := by rw [List.length_append, List.length_take]; omega
      have h3 := tS_put (s := (wdS j).getD i 0) h2
      have e : (t ++ (wdS j).take i) ++ [(wdS j).getD i 0] = t ++ (wdS j).take (i + 1) := by
        rw [List.append_assoc, List.getD_eq_getElem?_getD, List.getElem?_eq_getElem (show i < (wdS j).length by omega)]
        rw [← List.take_append_getElem (show i < (wdS j).length by omega)]; rfl
      rw [e, hlen] at h3
      obtain ⟨J, b1, b2, b3⟩ := ih (i + 1) _ (by omega) (tfr_put h1) h3
      refine ⟨J, b1, b2, ?_⟩
      have hk1 : K kx_teller 1 = nI (t.length + i) := by rw [h2.1, hlen]
      refine r_Teller_put_S_2 hT hj _ (Nat.le_refl _) (Nat.le_refl _) ?_
      refine ⟨_, k_strLen (d := d + 2) hT hj, bb_f (nI_ge (by omega) (by omega)) ⟨_, k_charAt (d := d) hT hj (by omega), ?_⟩⟩
      rw [hk1, nI_clamp (by omega), nar_b _ a3, nI_1, nI_1]
      exact bb_f (fun h => by have := (nI_leI (a := 700) (by omega) (by omega)).mp h; omega) ⟨vp_in_nI (by omega) (by omega), b3⟩
  obtain ⟨J, b1, b2, b3⟩ := loop (wdS j).length 0 I (by omega) (fun _ _ _ => rfl) (by rw [List.take_zero, List.append_nil]; exact ht)
  refine ⟨J, b1, b2, ?_⟩
  refine ab_C_of (by decide) rfl (Nat.le_of_ble_eq_true rfl) hT ?_
  exact r_Teller_put_S_0 hT hj (Nat.le_refl _) (Nat.le_refl _) b3
theorem k_putI (hT : w.1.stackTraces = false) {a : Nat} (ha : a < 1000) {t : List Nat} (ht : tS I t) (hl : t.length + 3 ≤ 700) : ∃ J, tfr J I ∧ tS J (t ++ dgs a) ∧ ab_U w (d + 1) mt_Teller_put_I [.ref kx_teller, .int (nI a)] I L n nc ns J := by
  obtain ⟨o1, o2, o3, o4, o5⟩ := dg_ops a ha
  have i0 : tfr I I := fun _ _ _ => rfl
  have n1 : ¬ 700 ≤ t.length := by omega
  have n2 : ¬ 700 ≤ t.length + 1 := by omega
  have n3 : ¬ 700 ≤ t.length + 1 + 1 := by omega
  have h1 := tS_put (s := 48 + a % 10) ht
  have d1 : 48 + a % 10 < 128 := by omega
  have d2 : 48 + a / 10 % 10 < 128 := by omega
  have d3 : 48 + a / 100 < 128 := by omega
  have b1 := nar_b _ d1
  have b2 := nar_b _ d2
  have b3 := nar_b _ d3
  by_cases c1 : a ≤ 9
  · have e : dgs a = [48 + a % 10] := (dgs_rec a ha).2 c1
    have c2 : a ≤ 99 := by omega
    rw [e]
    refine ⟨_, tfr_put i0, h1, ?_⟩
    refine ab_C_of (by decide) rfl (Nat.le_of_ble_eq_true rfl) hT ?_
    refine r_Teller_put_I_0 hT _ (Nat.le_refl _) (Nat.le_refl _) ?_
    rw [o3, b1]
    simp (disch := first | omega | decide) only [ht.1, n1, c1, c2, nl_add1, nl_add2, nl_mul1, nl_mul2, nl_sub1, nl_lt1, nl_lt2, nl_le1, nl_le2, nl_eq1, nl_eq2, nl_m1, nl_m2, nl_inT, nI_add, nI_mul, nI_leI, nI_ltI, nI_eq, nI_clamp, nl_bit, oI_n, oI_s, oI_m1, true_and, and_true, eq_self, Bool.false_eq_true, not_false_eq_true, not_true_eq_false, false_implies, true_implies, implies_true, forall_const, Nat.not_lt_zero, ab_row_eq, ab_row_ne, ab_up_i, ab_up_o, pk_us, pk_un, ab_row_row]
  · by_cases c2 : a ≤ 99
    · have e : dgs a = [48 + a / 10 % 10] ++ [48 + a % 10] := by
        unfold dgs
        rw [if_neg c1, if_pos c2, show a / 10 % 10 = a / 10 by omega]; rfl
      have g1 := tS_put (s := 48 + a / 10 % 10) ht
      have g2 := tS_put (s := 48 + a % 10) g1
      rw [List.length_append] at g2
      rw [e, ← List.append_assoc]
      refine ⟨_, tfr_put (tfr_put i0), g2, ?_⟩
      refine ab_C_of (by decide) rfl (Nat.le_of_ble_eq_true rfl) hT ?_
      refine r_Teller_put_I_0 hT _ (Nat.le_refl _) (Nat.le_refl _) ?_
      rw [o3, b1, o4, b2]
      simp (disch := first | omega | decide) only [ht.1, n1, n2, c1, c2, List.length_cons, List.length_nil, nl_add1, nl_add2, nl_mul1, nl_mul2, nl_sub1, nl_lt1, nl_lt2, nl_le1, nl_le2, nl_eq1, nl_eq2, nl_m1, nl_m2, nl_inT, nI_add, nI_mul, nI_leI, nI_ltI, nI_eq, nI_clamp, nl_bit, oI_n, oI_s, oI_m1, true_and, and_true, eq_self, Bool.false_eq_true, not_false_eq_true, not_true_eq_false, false_implies, true_implies, implies_true, forall_const, Nat.not_lt_zero, ab_row_eq, ab_row_ne, ab_up_i, ab_up_o, pk_us, pk_un, ab_row_row]
    · have e : dgs a = [48 + a / 100] ++ [48 + a / 10 % 10] ++ [48 + a % 10] := by
        unfold dgs
        rw [if_neg c1, if_neg c2]; rfl
      have g1 := tS_put (s := 48 + a / 100) ht
      have g2 := tS_put (s := 48 + a / 10 % 10) g1
      have g3 := tS_put (s := 48 + a % 10) g2
      rw [List.length_append, List.length_append] at g3
      rw [e, ← List.append_assoc, ← List.append_assoc]
      refine ⟨_, tfr_put (tfr_put (tfr_put i0)), g3, ?_⟩
      refine ab_C_of (by decide) rfl (Nat.le_of_ble_eq_true rfl) hT ?_
      refine r_Teller_put_I_0 hT _ (Nat.le_refl _) (Nat.le_refl _) ?_
      rw [o3, b1, o4, b2, o5, b3]
      simp (disch := first | omega | decide) only [ht.1, n1, n2, n3, c1, c2, List.length_cons, List.length_nil, List.length_append, nl_add1, nl_add2, nl_mul1, nl_mul2, nl_sub1, nl_lt1, nl_lt2, nl_le1, nl_le2, nl_eq1, nl_eq2, nl_m1, nl_m2, nl_inT, nI_add, nI_mul, nI_leI, nI_ltI, nI_eq, nI_clamp, nl_bit, oI_n, oI_s, oI_m1, true_and, and_true, eq_self, Bool.false_eq_true, not_false_eq_true, not_true_eq_false, false_implies, true_implies, implies_true, forall_const, Nat.not_lt_zero, ab_row_eq, ab_row_ne, ab_up_i, ab_up_o, pk_us, pk_un, ab_row_row]
end TEL
