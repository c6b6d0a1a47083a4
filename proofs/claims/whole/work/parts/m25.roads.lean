/-! DISTANCES: the model's and the class's -/
noncomputable def dsN (e1 e2 pr : Nat → Nat) (E : Nat → Prop) (x y : Nat) : Nat := @dite _ (∃ v, dD e1 e2 pr E x y v) (Classical.propDecidable _) (fun h => Classical.choose h) (fun _ => 1000000)
theorem dsN_shv {e1 e2 pr : Nat → Nat} {E : Nat → Prop} (x y : Nat) : shv e1 e2 pr E x y (dsN e1 e2 pr E x y) := by
  by_cases h : ∃ v, dD e1 e2 pr E x y v
  · unfold dsN
    rw [dif_pos h]
    exact Or.inl (Classical.choose_spec h)
  · unfold dsN
    rw [dif_neg h]
    exact Or.inr ⟨fun c hc => h (dD_ex hc), rfl⟩
theorem dsN_eq {e1 e2 pr : Nat → Nat} {E : Nat → Prop} {x y v : Nat} (h : shv e1 e2 pr E x y v) : dsN e1 e2 pr E x y = v := shv_uq (dsN_shv x y) h
theorem dsN_le {e1 e2 pr : Nat → Nat} {E : Nat → Prop} {S x y : Nat} (hw : ewp e1 e2 pr E S) (hS : S ≤ 10) (hy : y < S) : dsN e1 e2 pr E x y ≤ 1000000 := by
  rcases dsN_shv (e1 := e1) (e2 := e2) (pr := pr) (E := E) x y with h | h
  · have := dD_max hw hS hy h; omega
  · omega
def sdE (N : Nat) (sd : Nat → Bool) (k : Nat) : Prop := k < N ∧ sd k = true
/-- one end of a cable becomes nearer by the other -/
def rx1 (f : Nat → Nat) (a b c : Nat) : Nat → Nat := fun y => if y = a then min (f a) (f b + c) else f y
theorem rx1_le (f : Nat → Nat) (a b c y : Nat) : rx1 f a b c y ≤ f y := by
  unfold rx1
  by_cases e : y = a
  · rw [if_pos e, e]; exact Nat.min_le_left _ _
  · rw [if_neg e]; exact Nat.le_refl _
theorem rx1_at (f : Nat → Nat) (a b c : Nat) : rx1 f a b c a ≤ f b + c := by
  unfold rx1
  rw [if_pos rfl]; exact Nat.min_le_right _ _
def rx2 (f : Nat → Nat) (a b c : Nat) : Nat → Nat := rx1 (rx1 f a b c) b a c
theorem rx2_le (f : Nat → Nat) (a b c y : Nat) : rx2 f a b c y ≤ f y := Nat.le_trans (rx1_le _ _ _ _ _) (rx1_le _ _ _ _ _)
theorem rx2_1 (f : Nat → Nat) (a b c : Nat) : rx2 f a b c a ≤ f b + c := Nat.le_trans (rx1_le _ _ _ _ _) (rx1_at _ _ _ _)
theorem rx2_2 (f : Nat → Nat) (a b c : Nat) : rx2 f a b c b ≤ f a + c := Nat.le_trans (rx1_at _ _ _ _) (Nat.add_le_add_right (rx1_le _ _ _ _ _) _)
theorem rx2_vok {e1 e2 pr : Nat → Nat} {E : Nat → Prop} {x k S : Nat} {f : Nat → Nat} (hk : E k) (hw : ewp e1 e2 pr E S) (h : ∀ y, y < S → vok e1 e2 pr E x y (f y)) : ∀ y, y < S → vok e1 e2 pr E x y (rx2 f (e1 k) (e2 k) (pr k) y) := by
  have one : ∀ (f : Nat → Nat) (a b : Nat), a < S → b < S → ed e1 e2 k b a → (∀ y, y < S → vok e1 e2 pr E x y (f y)) → ∀ y, y < S → vok e1 e2 pr E x y (rx1 f a b (pr k) y) := by
    intro f a b ha hb he h y hy
    unfold rx1
    by_cases e : y = a
    · rw [if_pos e, e]; exact vok_add (h b hb) hk he (h a ha)
    · rw [if_neg e]; exact h y hy
  have hb := hw k hk
  exact one _ _ _ hb.2.2.2 hb.2.2.1 (Or.inl ⟨rfl, rfl⟩) (one _ _ _ hb.2.2.1 hb.2.2.2 (Or.inr ⟨rfl, rfl⟩) h)
theorem rk_0 {e1 e2 pr : Nat → Nat} {E : Nat → Prop} {S x : Nat} : rkD e1 e2 pr E S x 0 = 0 := by
  have : ∀ n, fa_cnt (nrB e1 e2 pr E x 0) n = 0 := by
    intro n
    induction n with
    | zero => rfl
    | succ n ih =>
      rw [fa_cnt_no (by
        cases h : nrB e1 e2 pr E x 0 n with
        | false => rfl
        | true => obtain ⟨u, h1, -⟩ := nrB_iff.mp h; omega), ih]
  exact this S
/-- the detours -/
noncomputable def dtB (e1 e2 pr : Nat → Nat) (E : Nat → Prop) (T : List Nat) (a b : Nat) : Bool := match pth e1 e2 T a b with
  | none => false
  | some p => decide (dsN e1 e2 pr E a b < (p.map pr).sum)
noncomputable def dtC (e1 e2 pr : Nat → Nat) (E : Nat → Prop) (T : List Nat) (S a b : Nat) : Nat := fa_cnt (fun b => decide (a < b) && dtB e1 e2 pr E T a b) b
def shI (v : Nat) : Int32 := if 1000000 ≤ v then -1 else nI v
section MRO
variable {w : ab_Wd} {d n nc ns : Nat} {I : Nat → Nat → Int32} {L : Nat → Nat → Int64}
variable {S N : Nat} {sd : Nat → Bool} {e1 e2 pr fm : Nat → Nat} {l : List Nat}
theorem mC_ewp (hm : mC I S N sd e1 e2 pr fm l) : ewp e1 e2 pr (sdE N sd) S := fun k hk => ⟨(hm.2.2.2.2 k hk.1).2.2.1, (hm.1.2.2.2.2.2 k hk.1).2.2.2.2.2, (hm.1.2.2.2.2.2 k hk.1).2.2.2.1, (hm.1.2.2.2.2.2 k hk.1).2.2.2.2.1⟩
theorem kC_ewp (hm : kC I S N sd e1 e2 pr fm l) : ewp e1 e2 pr (sdE N sd) S := fun k hk => ⟨(hm.2.2.2.2.2 k hk.1).2.2.1, (hm.1.2.2.2.2.2.2.2 k hk.1).2.2.2.2.2, (hm.1.2.2.2.2.2.2.2 k hk.1).2.2.2.1, (hm.1.2.2.2.2.2.2.2 k hk.1).2.2.2.2.1⟩
theorem z_tellNear (hT : w.1.stackTraces = false) (hm : mC I S N sd e1 e2 pr fm l) {a : Nat} (ha : a < S) : ∃ J, mfr J I ∧ (∀ c, c ≠ mx_near → J c = I c) ∧ (∀ y, y < S → J mx_near y = nI (dsN e1 e2 pr (sdE N sd) a y)) ∧ ab_U w (d + 1) mt_M_tellNear [.ref mx, .int (nI a)] I L n nc ns J := by
  have hm0 := hm
  obtain ⟨⟨p1, p2, p3, p4, p5, p6⟩, m2, m3, m4, m5⟩ := hm
  have hw := mC_ewp hm0
  have mfrI : ∀ {J : Nat → Nat → Int32}, (∀ c, c ≠ mx_near → J c = I c) → mfr J I := fun {J} h => ⟨fun c hc => h c (fun e => hc (by rw [e]; unfold mscr; decide)), fun k _ => by rw [h _ (by decide)]⟩
  generalize hE : sdE N sd = E at *
  have hEi : ∀ k, k < N → (E k ↔ sd k = true) := fun k hk => by rw [← hE]; exact ⟨fun h => h.2, fun h => ⟨hk, h⟩⟩
  have rounds : ∀ m r (J : Nat → Nat → Int32) (f : Nat → Nat), r + m = S → (∀ c, c ≠ mx_near → J c = I c) → (∀ y, y < S → J mx_near y = nI (f y) ∧ vok e1 e2 pr E a y (f y)) → (∀ y u, y < S → dD e1 e2 pr E a y u → rkD e1 e2 pr E S a u ≤ r → f y ≤ u) →
      ∃ J', (∀ c, c ≠ mx_near → J' c = I c) ∧ (∀ y, y < S → J' mx_near y = nI (dsN e1 e2 pr E a y)) ∧ ab_E w (d + 1) mt_M_tellNear 36 [.ref mx, .int (nI a), .int (nI r), .null, .null, .null] [] (J, L, ab_RR, n, nc, ns) (.inl none, (J', L, ab_RR, n, nc, ns)) := by
    intro m
    induction m with
    | zero =>
      intro r J f hr hJ hf hd
      have e : r = S := by omega
      subst e
      refine ⟨J, hJ, fun y hy => ?_, ?_⟩
      · rw [(hf y hy).1, dsN_eq (shv_of hw p3 hy (hf y hy).2 (fun u hu => hd y u hy hu (by have := rk_le hu hy; omega)))]
      · refine r_M_tellNear_36 hT _ _ (Nat.le_refl _) (Nat.le_refl _) ?_
        refine bb_t ?_ rfl
        rw [hJ _ (by decide), p1]; exact nI_le (Nat.le_refl _) (by omega)
    | succ m ih =>
      intro r J f hr hJ hf hd
      have inner : ∀ q k (J : Nat → Nat → Int32) (f : Nat → Nat), k + q = N → (∀ c, c ≠ mx_near → J c = I c) → (∀ y, y < S → J mx_near y = nI (f y) ∧ vok e1 e2 pr E a y (f y)) → (∀ y u, y < S → dD e1 e2 pr E a y u → rkD e1 e2 pr E S a u ≤ r → f y ≤ u) → (∀ y u, y < S → dD e1 e2 pr E a y u → rkD e1 e2 pr E S a u ≤ r + 1 → (∃ j z v, j < k ∧ E j ∧ ed e1 e2 j z y ∧ dD e1 e2 pr E a z v ∧ u = v + pr j) → f y ≤ u) →
          ∃ J', (∀ c, c ≠ mx_near → J' c = I c) ∧ (∀ y, y < S → J' mx_near y = nI (dsN e1 e2 pr E a y)) ∧ ab_E w (d + 1) mt_M_tellNear 46 [.ref mx, .int (nI a), .int (nI r), .int (nI k), .null, .null] [] (J, L, ab_RR, n, nc, ns) (.inl none, (J', L, ab_RR, n, nc, ns)) := by
        intro q
        induction q with
        | zero =>
          intro k J f hk hJ hf hd hd2
          have e : k = N := by omega
          subst e
          obtain ⟨J', g1, g2, g3⟩ := ih (r + 1) J f (by omega) hJ hf (fun y u hy hu hr => by
            by_cases e : a = y
            · subst e
              have e0 := dD_uq hu (dD_self a)
              subst e0
              exact hd a 0 hy hu (by rw [rk_0]; exact Nat.zero_le _)
            · obtain ⟨j, z, v, h1, h2, h3, h4⟩ := dD_last hu e
              refine hd2 y u hy hu hr ⟨j, z, v, ?_, h1, h2, h3, h4⟩
              rw [← hE] at h1; exact h1.1)
          refine ⟨J', g1, g2, ?_⟩
          refine r_M_tellNear_46 hT _ _ _ (Nat.le_refl _) (Nat.le_refl _) ?_
          refine bb_t (by rw [hJ _ (by decide), p2]; exact nI_le (Nat.le_refl _) (by omega)) ?_
          rw [nI_1]; exact g3
        | succ q ihq =>
          intro k J f hk hJ hf hd hd2
          have hnow : J mx_now = I mx_now := hJ _ (by decide)
          obtain ⟨q1, q2, q3, q4, q5, q6⟩ := p6 k (by omega)
          have hne := (m5 k (by omega)).2.2.2
          rw [← hnow] at q1 q2 q3
          have r2 : J mx_now 0 = nI N := by rw [hnow]; exact p2
          have hkN : ¬ N ≤ k := by omega
          have hsk := m3 k (by omega)
          rw [← hnow] at hsk
          by_cases hs : sd k = true
          · have hEk := (hEi k (by omega)).mpr hs
            obtain ⟨n1, v1⟩ := hf _ q4
            obtain ⟨n2, v2⟩ := hf _ q5
            have l1 := v1.1
            have l2 := v2.1
            have lm : min (f (e1 k)) (f (e2 k) + pr k) ≤ 1000000 := Nat.le_trans (Nat.min_le_left _ _) l1
            obtain ⟨J', g1, g2, g3⟩ := ihq (k + 1) (ab_up (ab_up J mx_near (e1 k) (nI (min (f (e1 k)) (f (e2 k) + pr k)))) mx_near (e2 k) (nI (min (f (e2 k)) (min (f (e1 k)) (f (e2 k) + pr k) + pr k)))) (rx2 f (e1 k) (e2 k) (pr k)) (by omega) (fun c hc => by rw [ab_up_o hc, ab_up_o hc]; exact hJ c hc) (fun y hy => by
                refine ⟨?_, rx2_vok hEk hw (fun y hy => (hf y hy).2) y hy⟩
                rw [ab_up_i]
                unfold rx2 rx1
                by_cases e : y = e2 k
                · rw [e, pk_us, if_pos rfl, if_pos rfl, if_neg (fun h => hne h.symm)]
                · rw [pk_un e, if_neg e, ab_up_i]
                  by_cases e' : y = e1 k
                  · rw [e', pk_us, if_pos rfl]
                  · rw [pk_un e', if_neg e']; exact (hf y hy).1)
              (fun y u hy hu hr => Nat.le_trans (rx2_le _ _ _ _ _) (hd y u hy hu hr)) (fun y u hy hu hr hx => by
                obtain ⟨j, z, v, h1, h2, h3, h4, h5⟩ := hx
                by_cases e : j = k
                · subst e
                  have hz := (ed_lt hw h2 h3).1
                  have hp1 := (hw j h2).1
                  have hlt := rk_lt (S := S) h4 hz (show v < u by omega)
                  have hz2 := hd z v hz h4 (by omega)
                  rcases h3 with ⟨c1, c2⟩ | ⟨c1, c2⟩
                  · rw [c1] at hz2; rw [c2, h5]
                    exact Nat.le_trans (rx2_2 _ _ _ _) (Nat.add_le_add_right hz2 _)
                  · rw [c1] at hz2; rw [c2, h5]
                    exact Nat.le_trans (rx2_1 _ _ _ _) (Nat.add_le_add_right hz2 _)
                · exact Nat.le_trans (rx2_le _ _ _ _ _) (hd2 y u hy hu hr ⟨j, z, v, by omega, h2, h3, h4, h5⟩))
            refine ⟨J', g1, g2, ?_⟩
            have hne' : ¬ e2 k = e1 k := fun h => hne h.symm
            refine r_M_tellNear_46 hT _ _ _ (Nat.le_refl _) (Nat.le_refl _) ?_
            simp (disch := first | omega | decide) only [r2, hkN, hsk, hs, q1, q2, q3, n1, n2, ab_min_nI, hne, hne', nl_add1, nl_add2, nl_mul1, nl_mul2, nl_sub1, nl_lt1, nl_lt2, nl_le1, nl_le2, nl_eq1, nl_eq2, nl_m1, nl_m2, nl_inT, nI_add, nI_mul, nI_leI, nI_ltI, nI_eq, nI_clamp, nl_bit, oI_n, oI_s, oI_m1, true_and, and_true, eq_self, Bool.false_eq_true, not_false_eq_true, not_true_eq_false, false_implies, true_implies, implies_true, forall_const, Nat.not_lt_zero, ab_row_eq, ab_row_ne, ab_up_i, ab_up_o, pk_us, pk_un, ab_row_row]
            exact g3
          · obtain ⟨J', g1, g2, g3⟩ := ihq (k + 1) J f (by omega) hJ hf hd (fun y u hy hu hr hx => by
              obtain ⟨j, z, v, h1, h2, h3, h4, h5⟩ := hx
              have e : j ≠ k := fun e => hs ((hEi k (by omega)).mp (e ▸ h2))
              exact hd2 y u hy hu hr ⟨j, z, v, by omega, h2, h3, h4, h5⟩)
            refine ⟨J', g1, g2, ?_⟩
            refine r_M_tellNear_46 hT _ _ _ (Nat.le_refl _) (Nat.le_refl _) ?_
            simp (disch := first | omega | decide) only [r2, hkN, hsk, hs, nl_add1, nl_add2, nl_mul1, nl_mul2, nl_sub1, nl_lt1, nl_lt2, nl_le1, nl_le2, nl_eq1, nl_eq2, nl_m1, nl_m2, nl_inT, nI_add, nI_mul, nI_leI, nI_ltI, nI_eq, nI_clamp, nl_bit, oI_n, oI_s, oI_m1, true_and, and_true, eq_self, Bool.false_eq_true, not_false_eq_true, not_true_eq_false, false_implies, true_implies, implies_true, forall_const, Nat.not_lt_zero, ab_row_eq, ab_row_ne, ab_up_i, ab_up_o, pk_us, pk_un, ab_row_row]
            exact g3
      obtain ⟨J', g1, g2, g3⟩ := inner N 0 J f (by omega) hJ hf hd (fun y u _ _ _ hx => by obtain ⟨j, z, v, h1, -⟩ := hx; omega)
      refine ⟨J', g1, g2, ?_⟩
      refine r_M_tellNear_36 hT _ _ (Nat.le_refl _) (Nat.le_refl _) ?_
      refine bb_f (by rw [hJ _ (by decide), p1]; exact nI_ge (by omega) (by omega)) g3
  have start : ∀ m i (J : Nat → Nat → Int32), i + m = S → (∀ c, c ≠ mx_near → J c = I c) → (∀ y, y < i → J mx_near y = nI (if y = a then 0 else 1000000)) →
      ∃ J', (∀ c, c ≠ mx_near → J' c = I c) ∧ (∀ y, y < S → J' mx_near y = nI (dsN e1 e2 pr E a y)) ∧ ab_E w (d + 1) mt_M_tellNear 2 [.ref mx, .int (nI a), .int (nI i), .null, .null, .null] [] (J, L, ab_RR, n, nc, ns) (.inl none, (J', L, ab_RR, n, nc, ns)) := by
    intro m
    induction m with
    | zero =>
      intro i J hi hJ hf
      have e : i = S := by omega
      subst e
      obtain ⟨J', g1, g2, g3⟩ := rounds i 0 J (fun y => if y = a then 0 else 1000000) (by omega) hJ (fun y hy => ⟨hf y hy, by
          show vok e1 e2 pr E a y (if y = a then 0 else 1000000)
          by_cases e : y = a
          · rw [if_pos e, e]; exact ⟨by omega, Or.inr (rch_refl a)⟩
          · rw [if_neg e]; exact ⟨Nat.le_refl _, Or.inl rfl⟩⟩) (fun y u hy hu hr => by
          show (if y = a then 0 else 1000000) ≤ u
          by_cases e : y = a
          · rw [if_pos e]; exact Nat.zero_le _
          · exfalso
            obtain ⟨j, z, v, h1, h2, h3, h4⟩ := dD_last hu (fun h => e h.symm)
            have hz := (ed_lt hw h1 h2).1
            have hp1 := (hw j h1).1
            have := rk_lt (S := i) h3 hz (show v < u by omega)
            omega)
      refine ⟨J', g1, g2, ?_⟩
      refine r_M_tellNear_2 hT _ _ (Nat.le_refl _) (Nat.le_refl _) ?_
      refine bb_t (by rw [hJ _ (by decide), p1]; exact nI_le (Nat.le_refl _) (by omega)) g3
    | succ m ih =>
      intro i J hi hJ hf
      have hiS : ¬ S ≤ i := by omega
      have r2 : J mx 2 = nI S := by rw [hJ _ (by decide)]; exact p1
      have step : ∀ x : Int32, x = nI (if i = a then 0 else 1000000) → ∃ J', (∀ c, c ≠ mx_near → J' c = I c) ∧ (∀ y, y < S → J' mx_near y = nI (dsN e1 e2 pr E a y)) ∧ ab_E w (d + 1) mt_M_tellNear 2 [.ref mx, .int (nI a), .int (nI (i + 1)), .null, .null, .null] [] ((ab_up J mx_near i x), L, ab_RR, n, nc, ns) (.inl none, (J', L, ab_RR, n, nc, ns)) := fun x hx => ih (i + 1) (ab_up J mx_near i x) (by omega) (fun c hc => by rw [ab_up_o hc]; exact hJ c hc) (fun y hy => by
        rw [ab_up_i]
        by_cases e : y = i
        · rw [e, pk_us, hx]
        · rw [pk_un e]; exact hf y (by omega))
      by_cases e : i = a
      · obtain ⟨J', g1, g2, g3⟩ := step 0 (by rw [if_pos e]; rfl)
        refine ⟨J', g1, g2, ?_⟩
        have haS : ¬ S ≤ a := by omega
        rw [e] at g3 ⊢
        refine r_M_tellNear_2 hT _ _ (Nat.le_refl _) (Nat.le_refl _) ?_
        simp (disch := first | omega | decide) only [r2, haS, nl_add1, nl_add2, nl_mul1, nl_mul2, nl_sub1, nl_lt1, nl_lt2, nl_le1, nl_le2, nl_eq1, nl_eq2, nl_m1, nl_m2, nl_inT, nI_add, nI_mul, nI_leI, nI_ltI, nI_eq, nI_clamp, nl_bit, oI_n, oI_s, oI_m1, true_and, and_true, eq_self, Bool.false_eq_true, not_false_eq_true, not_true_eq_false, false_implies, true_implies, implies_true, forall_const, Nat.not_lt_zero, ab_row_eq, ab_row_ne, ab_up_i, ab_up_o, pk_us, pk_un, ab_row_row]
        exact g3
      · obtain ⟨J', g1, g2, g3⟩ := step 1000000 (by rw [if_neg e]; rfl)
        refine ⟨J', g1, g2, ?_⟩
        refine r_M_tellNear_2 hT _ _ (Nat.le_refl _) (Nat.le_refl _) ?_
        simp (disch := first | omega | decide) only [r2, hiS, e, nl_add1, nl_add2, nl_mul1, nl_mul2, nl_sub1, nl_lt1, nl_lt2, nl_le1, nl_le2, nl_eq1, nl_eq2, nl_m1, nl_m2, nl_inT, nI_add, nI_mul, nI_leI, nI_ltI, nI_eq, nI_clamp, nl_bit, oI_n, oI_s, oI_m1, true_and, and_true, eq_self, Bool.false_eq_true, not_false_eq_true, not_true_eq_false, false_implies, true_implies, implies_true, forall_const, Nat.not_lt_zero, ab_row_eq, ab_row_ne, ab_up_i, ab_up_o, pk_us, pk_un, ab_row_row]
        exact g3
  obtain ⟨J', g1, g2, g3⟩ := start S 0 I (by omega) (fun _ _ => rfl) (fun y hy => absurd hy (Nat.not_lt_zero y))
  refine ⟨J', mfrI g1, g1, g2, ?_⟩
  refine ab_C_of (by decide) rfl (Nat.le_of_ble_eq_true rfl) hT ?_
  refine r_M_tellNear_0 hT _ (Nat.le_refl _) (Nat.le_refl _) ?_
  exact g3
theorem z_shortOf (hT : w.1.stackTraces = false) (hm : mC I S N sd e1 e2 pr fm l) {a b : Nat} (ha : a < S) (hb : b < S) : ∃ J, mfr J I ∧ ab_PU w (d + 2) mt_M_shortOf [.ref mx, .int (nI a), .int (nI b)] I L n nc ns (shI (dsN e1 e2 pr (sdE N sd) a b)) J := by
  obtain ⟨J, a1, a2, a3, a4⟩ := z_tellNear (w := w) (d := d) (n := n) (nc := nc) (ns := ns) (L := L) hT hm ha
  refine ⟨J, a1, ?_⟩
  have h := a3 b hb
  have p3 := hm.1.2.2.1
  have hle := dsN_le (x := a) (mC_ewp hm) p3 hb
  refine ab_C_of (by decide) rfl (Nat.le_of_ble_eq_true rfl) hT ?_
  refine r_M_shortOf_0 hT _ _ (Nat.le_refl _) (Nat.le_refl _) ?_
  refine ⟨J, a4, vp_in_nI (by omega) (by omega), ?_⟩
  rw [nI_clamp (by omega), h]
  unfold shI
  by_cases e : 1000000 ≤ dsN e1 e2 pr (sdE N sd) a b
  · rw [if_pos e]
    refine ⟨fun g => ?_, fun _ => rfl⟩
    have := (nI_ltI (b := 1000000) (by omega) (by omega)).mp g
    omega
  · rw [if_neg e]
    refine ⟨fun _ => rfl, fun g => absurd ((nI_ltI (b := 1000000) (by omega) (by omega)).mpr (by omega)) g⟩
theorem z_detours (hT : w.1.stackTraces = false) (hm : mC I S N sd e1 e2 pr fm l) : ∃ J, mfr J I ∧ ab_PU w (d + 4) mt_M_detours [.ref mx] I L n nc ns (nI (smf (fun a => dtC e1 e2 pr (sdE N sd) (net e1 e2 sd l).reverse S a S) S)) J := by
  obtain ⟨J0, r, h1, h2, h3⟩ := z_netNow (w := w) (d := d) (n := n) (nc := nc) (ns := ns) (L := L) hT hm
  have hf := mfr_nm h1
  have p3 := hm.1.2.2.1
  generalize hg : (fun a => dtC e1 e2 pr (sdE N sd) (net e1 e2 sd l).reverse S a S) = g
  have gl : ∀ a, g a ≤ 10 := fun a => by
    rw [← hg]
    have := fa_cnt_le (fun b => decide (a < b) && dtB e1 e2 pr (sdE N sd) (net e1 e2 sd l).reverse a b) S
    show dtC e1 e2 pr (sdE N sd) (net e1 e2 sd l).reverse S a S ≤ 10
    unfold dtC; omega
  have outer : ∀ m a (J : Nat → Nat → Int32), a + m = S → mfr J I → ∃ J', mfr J' I ∧ ab_E w ((d + 3) + 1) mt_M_detours 9 [.ref mx, .int r, .int (nI (smf g a)), .int (nI a), .null] [] (J, L, ab_RR, n, nc, ns) (.inl (some (.int (nI (smf g S)))), (J', L, ab_RR, n, nc, ns)) := by
    intro m
    induction m with
    | zero =>
      intro a J ha hJ
      have e : a = S := by omega
      subst e
      refine ⟨J, hJ, ?_⟩
      refine r_M_detours_9 hT _ _ _ (Nat.le_refl _) (Nat.le_refl _) ?_
      refine bb_t ?_ rfl
      rw [mfr_2 hJ, hm.1.1]; exact nI_le (Nat.le_refl _) (by omega)
    | succ m ih =>
      intro a J ha hJ
      have haS : a < S := by omega
      have hm' := mC_fr hJ hm
      obtain ⟨J1, b1, b2, b3, b4⟩ := z_tellNear (w := w) (d := d + 2) (n := n) (nc := nc) (ns := ns) (L := L) hT hm' haS
      have hc0 : dtC e1 e2 pr (sdE N sd) (net e1 e2 sd l).reverse S a (a + 1) = 0 := by
        have : ∀ n, n ≤ a + 1 → fa_cnt (fun b => decide (a < b) && dtB e1 e2 pr (sdE N sd) (net e1 e2 sd l).reverse a b) n = 0 := by
          intro n
          induction n with
          | zero => intro _; rfl
          | succ n ih => intro h; rw [fa_cnt_no (by rw [decide_eq_false (by omega)]; rfl)]; exact ih (by omega)
        exact this _ (Nat.le_refl _)
      have inner : ∀ q b (J : Nat → Nat → Int32), b + q = S → a < b → mfr J I → (∀ y, y < S → J mx_near y = nI (dsN e1 e2 pr (sdE N sd) a y)) → ∃ J', mfr J' I ∧ ab_E w ((d + 3) + 1) mt_M_detours 27 [.ref mx, .int r, .int (nI (smf g a + dtC e1 e2 pr (sdE N sd) (net e1 e2 sd l).reverse S a b)), .int (nI a), .int (nI b)] [] (J, L, ab_RR, n, nc, ns) (.inl (some (.int (nI (smf g S)))), (J', L, ab_RR, n, nc, ns)) := by
        intro q
        induction q with
        | zero =>
          intro b J hb hab hJ hn
          have e : b = S := by omega
          subst e
          obtain ⟨J', g1, g2⟩ := ih (a + 1) J (by omega) hJ
          refine ⟨J', g1, ?_⟩
          have e9 : g a = dtC e1 e2 pr (sdE N sd) (net e1 e2 sd l).reverse b a b := by rw [← hg]
          rw [smf, e9] at g2
          refine r_M_detours_27 hT _ _ _ _ (Nat.le_refl _) (Nat.le_refl _) ?_
          refine bb_t (by rw [mfr_2 hJ, hm.1.1]; exact nI_le (Nat.le_refl _) (by omega)) ?_
          rw [nI_1]; exact g2
        | succ q ihq =>
          intro b J hb hab hJ hn
          have hbS : b < S := by omega
          have hm' := mC_fr hJ hm
          obtain ⟨J2, r2, a1, a0, a2, a3⟩ := z_wayN (w := w) (d := d + 2) (n := n) (nc := nc) (ns := ns) (L := L) (a := a) (b := b) hT hm' h2 haS hbS
          have n2 : J2 mx_near = J mx_near := a0.1 _ (by decide) (by decide) (by decide) (by decide)
          have hnb : J2 mx_near b = nI (dsN e1 e2 pr (sdE N sd) a b) := by rw [n2]; exact hn b hbS
          have hle := dsN_le (x := a) (mC_ewp hm) p3 hbS
          obtain ⟨J', g1, g2⟩ := ihq (b + 1) J2 (by omega) (by omega) (mfr_trans a1 hJ) (fun y hy => by rw [n2]; exact hn y hy)
          refine ⟨J', g1, ?_⟩
          refine r_M_detours_27 hT _ _ _ _ (Nat.le_refl _) (Nat.le_refl _) ?_
          refine bb_f (by rw [hm'.1.1]; exact nI_ge (by omega) (by omega)) ⟨r2, J2, a3, ?_⟩
          rw [nI_1]
          rcases a2 with ⟨p, c1, c2, c3⟩ | ⟨c1, c2, c3⟩
          · have y := z_prices (w := w) (d := d + 2) (n := n) (nc := nc) (ns := ns) (L := L) hT (nm_fr a1 hm'.1) c3
            have hsum : (p.map pr).sum ≤ 8991 := by
              have := spn_le hm.1 (by omega) sd a b
              unfold spn at this; rw [c1] at this; exact this
            refine ⟨fun e => absurd (c2 ▸ e) (nI_m1 (by have := c3.2.1; omega)), fun _ => ⟨_, y, vp_in_nI (by omega) (by omega), ?_⟩⟩
            rw [nI_clamp (by omega), hnb, nI_leI (by omega) (by omega), nl_add1, nI_1]
            refine ⟨fun e => ?_, fun e => ?_⟩
            · rw [Nat.add_zero]
              have : dtC e1 e2 pr (sdE N sd) (net e1 e2 sd l).reverse S a (b + 1) = dtC e1 e2 pr (sdE N sd) (net e1 e2 sd l).reverse S a b := by
                unfold dtC
                rw [fa_cnt_no (by unfold dtB; rw [c1]; simp; omega)]
              rw [this] at g2; exact g2
            · have : dtC e1 e2 pr (sdE N sd) (net e1 e2 sd l).reverse S a (b + 1) = dtC e1 e2 pr (sdE N sd) (net e1 e2 sd l).reverse S a b + 1 := by
                unfold dtC
                rw [fa_cnt_yes (by unfold dtB; rw [c1]; simp; omega)]
              rw [this] at g2; exact g2
          · have : dtC e1 e2 pr (sdE N sd) (net e1 e2 sd l).reverse S a (b + 1) = dtC e1 e2 pr (sdE N sd) (net e1 e2 sd l).reverse S a b := by
              unfold dtC
              rw [fa_cnt_no (by unfold dtB; rw [c1]; simp)]
            rw [this] at g2
            rw [nl_add1, Nat.add_zero]
            exact ⟨fun _ => g2, fun e => absurd c2 e⟩
      obtain ⟨J', g1, g2⟩ := inner (S - (a + 1)) (a + 1) J1 (by omega) (by omega) (mfr_trans b1 hJ) b3
      rw [hc0, Nat.add_zero] at g2
      refine ⟨J', g1, ?_⟩
      refine r_M_detours_9 hT _ _ _ (Nat.le_refl _) (Nat.le_refl _) ?_
      refine bb_f (by rw [mfr_2 hJ, hm.1.1]; exact nI_ge (by omega) (by omega)) ⟨J1, b4, ?_⟩
      rw [nI_1]; exact g2
  obtain ⟨J', g1, g2⟩ := outer S 0 J0 (by omega) hf
  refine ⟨J', g1, ?_⟩
  refine ab_C_of (by decide) rfl (Nat.le_of_ble_eq_true rfl) hT ?_
  refine r_M_detours_0 hT (Nat.le_refl _) (Nat.le_refl _) ?_
  exact ⟨r, J0, h3, g2⟩
end MRO
