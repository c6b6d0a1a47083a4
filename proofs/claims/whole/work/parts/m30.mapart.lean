/-! APART: the model's answer, and that both are the same -/
section MAP
variable {w : ab_Wd} {d n nc ns : Nat} {I : Nat → Nat → Int32} {L : Nat → Nat → Int64}
variable {S N : Nat} {sd : Nat → Bool} {e1 e2 pr fm : Nat → Nat} {l : List Nat}
theorem mfr_af {J : Nat → Nat → Int32} (h : afr J I) : mfr J I := ⟨fun c hc => h c (fun e => hc (by rw [e]; unfold mscr; decide)) (fun e => hc (by rw [e]; unfold mscr; decide)), fun k _ => by rw [h _ (by decide) (by decide)]⟩
theorem ab_max0 {m : Nat} (h : m < 2 ^ 31) : ab_max32 0 (nI m) = nI m := by
  have := ab_max_nI (u := 0) (v := m) (by omega) h
  rw [Nat.max_eq_right (Nat.zero_le _)] at this
  exact this
theorem z_apartOf (hT : w.1.stackTraces = false) (hm : mC I S N sd e1 e2 pr fm l) {a b : Nat} (ha : a < S) (hb : b < S) (hab : a ≠ b) :
    ∃ (J : Nat → Nat → Int32) (m : Nat) (g : Nat → Int), mfr J I ∧ flw e1 e2 N sd g a b (m : Int) ∧ cls e1 e2 sd g a b ∧ ab_PU w (d + 11) mt_M_apartOf [.ref mx, .int (nI a), .int (nI b)] I L n nc ns (nI m) J := by
  have p1 := hm.1.1
  have p3 := hm.1.2.2.1
  have p4 := hm.1.2.2.2.1
  have hab' : ¬ nI a = nI b := fun e => hab ((nI_eq (by omega) (by omega)).mp e)
  have loop : ∀ (q m : Nat) (g : Nat → Int) (J : Nat → Nat → Int32) (x v5 : Int32), m + q = 25 → x + 1 = nI m → afr J I → flI J mx_gone g → flw e1 e2 N sd g a b (m : Int) →
      ∃ (J' : Nat → Nat → Int32) (m' : Nat) (g' : Nat → Int), afr J' I ∧ flw e1 e2 N sd g' a b (m' : Int) ∧ cls e1 e2 sd g' a b ∧ ab_E w ((d + 10) + 1) mt_M_apartOf 35 [.ref mx, .int (nI a), .int (nI b), .int x, .int 1, .null] [] (J, L, ab_RR, n, nc, ns) (.inl (some (.int (nI m'))), (J', L, ab_RR, n, nc, ns)) := by
    intro q
    induction q with
    | zero =>
      intro m g J x v5 hq hx hJ hf hg
      have := flw_N hab hg
      omega
    | succ q ih =>
      intro m g J x v5 hq hx hJ hf hg
      have clear : ∀ k i (J : Nat → Nat → Int32), i + k = S → afr J I → flI J mx_gone g → (∀ y, y < i → J mx_metSites y = 0) →
          ∃ (J' : Nat → Nat → Int32) (m' : Nat) (g' : Nat → Int), afr J' I ∧ flw e1 e2 N sd g' a b (m' : Int) ∧ cls e1 e2 sd g' a b ∧ ab_E w ((d + 10) + 1) mt_M_apartOf 46 [.ref mx, .int (nI a), .int (nI b), .int (nI m), .int 1, .int (nI i)] [] (J, L, ab_RR, n, nc, ns) (.inl (some (.int (nI m'))), (J', L, ab_RR, n, nc, ns)) := by
        intro k
        induction k with
        | zero =>
          intro i J hi hJ hf hmet
          have e : i = S := by omega
          subst e
          obtain ⟨J1, M1, g1, r, x1, x2, x3, x4, x5, x6, x7⟩ := z_finds (w := w) (d := d) (n := n) (nc := nc) (ns := ns) (L := L) hT hm hb 10 a (fun _ => false) J g (Nat.le_trans (fa_cnt_le _ _) p3) ha rfl rfl hJ (fun y hy => by rw [hmet y hy]; rfl) hf hg.1 hg.2.1
          have r2 : J mx 2 = nI i := by rw [hJ _ (by decide) (by decide)]; exact p1
          rcases x6 with ⟨e, y1, y2, y3, y4⟩ | ⟨e, y1, y2, y3⟩
          · subst e
            obtain ⟨J', m', g', c1, c2, c3, c4⟩ := ih (m + 1) g1 J1 (nI m) 0 (by omega) (nI_1 m) x1 x3 ⟨y1, y2, fun p => by
              rw [y3, hg.2.2 p]
              have : ((m + 1 : Nat) : Int) = (m : Int) + 1 := by omega
              rw [this, Int.add_mul]; omega⟩
            refine ⟨J', m', g', c1, c2, c3, ?_⟩
            refine r_M_apartOf_46 hT _ _ _ _ _ (Nat.le_refl _) (Nat.le_refl _) ?_
            refine bb_t (by rw [r2]; exact nI_le (Nat.le_refl _) (by omega)) ⟨_, J1, x7, c4⟩
          · subst e
            refine ⟨J1, m, g, x1, hg, ⟨fun s => decide (s < i) && M1 s, by simp [ha, x5], by simp [y2], fun k hk => ?_⟩, ?_⟩
            · have hkN := hm.2.2.2.1 k hk
              have q4 := (hm.1.2.2.2.2.2 k hkN).2.2.2.1
              have q5 := (hm.1.2.2.2.2.2 k hkN).2.2.2.2.1
              have hgk := hg.1 k
              show ((decide (e1 k < i) && M1 (e1 k)) = true → (decide (e2 k < i) && M1 (e2 k)) = false → g k = 1) ∧ ((decide (e2 k < i) && M1 (e2 k)) = true → (decide (e1 k < i) && M1 (e1 k)) = false → g k = -1)
              rw [decide_eq_true q4, decide_eq_true q5, Bool.true_and, Bool.true_and]
              refine ⟨fun h1 h2 => ?_, fun h1 h2 => ?_⟩
              · refine Classical.byContradiction fun e => ?_
                have := y3 (e1 k) h1 rfl k (e2 k) hk (Or.inl ⟨rfl, rfl, by omega⟩)
                rw [h2] at this; cases this
              · refine Classical.byContradiction fun e => ?_
                have := y3 (e2 k) h1 rfl k (e1 k) hk (Or.inr ⟨rfl, rfl, by omega⟩)
                rw [h2] at this; cases this
            · have z : ab_E w ((d + 10) + 1) mt_M_apartOf 35 [.ref mx, .int (nI a), .int (nI b), .int (nI m), .int 0, .null] [] (J1, L, ab_RR, n, nc, ns) (.inl (some (.int (nI m))), (J1, L, ab_RR, n, nc, ns)) := by
                refine r_M_apartOf_35 hT _ _ _ _ (Nat.le_refl _) (Nat.le_refl _) ?_
                refine ⟨fun _ => ?_, fun h => absurd rfl h⟩
                rw [ab_max0 (by omega)]
              refine r_M_apartOf_46 hT _ _ _ _ _ (Nat.le_refl _) (Nat.le_refl _) ?_
              refine bb_t (by rw [r2]; exact nI_le (Nat.le_refl _) (by omega)) ⟨_, J1, x7, z⟩
        | succ k ihk =>
          intro i J hi hJ hf hmet
          have hiS : ¬ S ≤ i := by omega
          have r2 : J mx 2 = nI S := by rw [hJ _ (by decide) (by decide)]; exact p1
          obtain ⟨J', m', g', c1, c2, c3, c4⟩ := ihk (i + 1) (ab_up J mx_metSites i 0) (by omega) (fun c h1 h2 => by rw [ab_up_o h1]; exact hJ c h1 h2) (fun j hj => by rw [ab_up_o (by decide)]; exact hf j hj) (fun y hy => by
            rw [ab_up_i]
            by_cases e : y = i
            · rw [e, pk_us]
            · rw [pk_un e]; exact hmet y (by omega))
          refine ⟨J', m', g', c1, c2, c3, ?_⟩
          refine r_M_apartOf_46 hT _ _ _ _ _ (Nat.le_refl _) (Nat.le_refl _) ?_
          simp (disch := first | omega | decide) only [r2, hiS, nar0, nl_add1, nl_add2, nl_mul1, nl_mul2, nl_sub1, nl_lt1, nl_lt2, nl_le1, nl_le2, nl_eq1, nl_eq2, nl_m1, nl_m2, nl_inT, nI_add, nI_mul, nI_leI, nI_ltI, nI_eq, nI_clamp, nl_bit, oI_n, oI_s, oI_m1, true_and, and_true, eq_self, Bool.false_eq_true, not_false_eq_true, not_true_eq_false, false_implies, true_implies, implies_true, forall_const, Nat.not_lt_zero, ab_row_eq, ab_row_ne, ab_up_i, ab_up_o, pk_us, pk_un, ab_row_row]
          exact c4
      obtain ⟨J', m', g', c1, c2, c3, c4⟩ := clear S 0 J (by omega) hJ hf (fun y hy => absurd hy (Nat.not_lt_zero y))
      refine ⟨J', m', g', c1, c2, c3, ?_⟩
      refine r_M_apartOf_35 hT _ _ _ _ (Nat.le_refl _) (Nat.le_refl _) ?_
      refine ⟨fun h => absurd h (by decide), fun _ => ?_⟩
      rw [hx]; exact c4
  have start : ∀ m i (J : Nat → Nat → Int32), i + m = 24 → afr J I → (∀ k, k < i → J mx_gone k = 0) →
      ∃ (J' : Nat → Nat → Int32) (m' : Nat) (g' : Nat → Int), afr J' I ∧ flw e1 e2 N sd g' a b (m' : Int) ∧ cls e1 e2 sd g' a b ∧ ab_E w ((d + 10) + 1) mt_M_apartOf 2 [.ref mx, .int (nI a), .int (nI b), .int (nI i), .null, .null] [] (J, L, ab_RR, n, nc, ns) (.inl (some (.int (nI m'))), (J', L, ab_RR, n, nc, ns)) := by
    intro m
    induction m with
    | zero =>
      intro i J hi hJ hf
      obtain ⟨J', m', g', c1, c2, c3, c4⟩ := loop 25 0 (fun _ => 0) J (-1) 0 (by omega) (by decide) hJ (fun k hk => hf k (by omega)) ⟨fun _ => by simp, fun _ _ => rfl, fun p => by rw [phi_0]; simp⟩
      refine ⟨J', m', g', c1, c2, c3, ?_⟩
      have h24 : 24 ≤ i := by omega
      refine r_M_apartOf_2 hT _ _ _ (Nat.le_refl _) (Nat.le_refl _) ?_
      simp (disch := first | omega | decide) only [h24, nl_add1, nl_add2, nl_mul1, nl_mul2, nl_sub1, nl_lt1, nl_lt2, nl_le1, nl_le2, nl_eq1, nl_eq2, nl_m1, nl_m2, nl_inT, nI_add, nI_mul, nI_leI, nI_ltI, nI_eq, nI_clamp, nl_bit, oI_n, oI_s, oI_m1, true_and, and_true, eq_self, Bool.false_eq_true, not_false_eq_true, not_true_eq_false, false_implies, true_implies, implies_true, forall_const, Nat.not_lt_zero, ab_row_eq, ab_row_ne, ab_up_i, ab_up_o, pk_us, pk_un, ab_row_row]
      exact ⟨fun e => absurd e hab, fun _ => c4⟩
    | succ m ih =>
      intro i J hi hJ hf
      obtain ⟨J', m', g', c1, c2, c3, c4⟩ := ih (i + 1) (ab_up J mx_gone i 0) (by omega) (fun c h1 h2 => by rw [ab_up_o h2]; exact hJ c h1 h2) (fun k hk => by
        rw [ab_up_i]
        by_cases e : k = i
        · rw [e, pk_us]
        · rw [pk_un e]; exact hf k (by omega))
      refine ⟨J', m', g', c1, c2, c3, ?_⟩
      have h24 : ¬ 24 ≤ i := by omega
      refine r_M_apartOf_2 hT _ _ _ (Nat.le_refl _) (Nat.le_refl _) ?_
      simp (disch := first | omega | decide) only [h24, nl_add1, nl_add2, nl_mul1, nl_mul2, nl_sub1, nl_lt1, nl_lt2, nl_le1, nl_le2, nl_eq1, nl_eq2, nl_m1, nl_m2, nl_inT, nI_add, nI_mul, nI_leI, nI_ltI, nI_eq, nI_clamp, nl_bit, oI_n, oI_s, oI_m1, true_and, and_true, eq_self, Bool.false_eq_true, not_false_eq_true, not_true_eq_false, false_implies, true_implies, implies_true, forall_const, Nat.not_lt_zero, ab_row_eq, ab_row_ne, ab_up_i, ab_up_o, pk_us, pk_un, ab_row_row]
      exact c4
  obtain ⟨J', m', g', c1, c2, c3, c4⟩ := start 24 0 I (by omega) (fun _ _ _ => rfl) (fun k hk => absurd hk (Nat.not_lt_zero k))
  refine ⟨J', m', g', mfr_af c1, c2, c3, ?_⟩
  refine ab_C_of (by decide) rfl (Nat.le_of_ble_eq_true rfl) hT ?_
  refine r_M_apartOf_0 hT _ _ (Nat.le_refl _) (Nat.le_refl _) ?_
  exact c4
theorem z_apartOf0 (hT : w.1.stackTraces = false) {v : Int32} : ∃ J, mfr J I ∧ ab_PU w (d + 11) mt_M_apartOf [.ref mx, .int v, .int v] I L n nc ns 0 J := by
  have start : ∀ m i (J : Nat → Nat → Int32), i + m = 24 → afr J I → ∃ J', afr J' I ∧ ab_E w ((d + 10) + 1) mt_M_apartOf 2 [.ref mx, .int v, .int v, .int (nI i), .null, .null] [] (J, L, ab_RR, n, nc, ns) (.inl (some (.int 0)), (J', L, ab_RR, n, nc, ns)) := by
    intro m
    induction m with
    | zero =>
      intro i J hi hJ
      refine ⟨J, hJ, ?_⟩
      have z : ab_E w ((d + 10) + 1) mt_M_apartOf 35 [.ref mx, .int v, .int v, .int (-1), .int 0, .null] [] (J, L, ab_RR, n, nc, ns) (.inl (some (.int 0)), (J, L, ab_RR, n, nc, ns)) := by
        refine r_M_apartOf_35 hT _ _ _ _ (Nat.le_refl _) (Nat.le_refl _) ?_
        refine ⟨fun _ => ?_, fun h => absurd rfl h⟩
        rw [show ab_max32 0 (-1) = 0 by decide]
      have h24 : 24 ≤ i := by omega
      refine r_M_apartOf_2 hT _ _ _ (Nat.le_refl _) (Nat.le_refl _) ?_
      refine bb_t ((nI_leI (a := 24) (by omega) (by omega)).mpr h24) ⟨fun _ => z, fun h => absurd rfl h⟩
    | succ m ih =>
      intro i J hi hJ
      obtain ⟨J', g1, g2⟩ := ih (i + 1) (ab_up J mx_gone i 0) (by omega) (fun c h1 h2 => by rw [ab_up_o h2]; exact hJ c h1 h2)
      refine ⟨J', g1, ?_⟩
      have h24 : ¬ 24 ≤ i := by omega
      refine r_M_apartOf_2 hT _ _ _ (Nat.le_refl _) (Nat.le_refl _) ?_
      refine bb_f (fun h => h24 ((nI_leI (a := 24) (by omega) (by omega)).mp h)) ⟨vp_in_nI (by omega) (by omega), ?_⟩
      rw [nI_clamp (by omega), nI_1]; exact g2
  obtain ⟨J', g1, g2⟩ := start 24 0 I (by omega) (fun _ _ _ => rfl)
  refine ⟨J', mfr_af g1, ?_⟩
  refine ab_C_of (by decide) rfl (Nat.le_of_ble_eq_true rfl) hT ?_
  refine r_M_apartOf_0 hT _ _ (Nat.le_refl _) (Nat.le_refl _) ?_
  exact g2
theorem ap_same {g g' : Nat → Int} {a b m m' : Nat} (hN : N ≤ 24) (hab : a ≠ b) (h1 : flw e1 e2 N sd g a b (m : Int)) (h2 : cls e1 e2 sd g a b ∨ m = 24) (h3 : flw e1 e2 N sd g' a b (m' : Int)) (h4 : cls e1 e2 sd g' a b) : m = m' := by
  have u1 := flw_le h3 h4 h1
  have u2 := flw_N hab h3
  rcases h2 with h2 | h2
  · have := flw_le h1 h2 h3; omega
  · omega
end MAP
