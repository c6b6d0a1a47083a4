/-! TWINS -/
theorem va_cpy_in {f g : Nat → Int32} {k : Nat} (h : k < 24) : va_cpy f g 0 0 24 k = f k := by
  unfold va_cpy
  simp [h]
section KTW
variable {w : ab_Wd} {d n nc ns : Nat} {I : Nat → Nat → Int32} {L : Nat → Nat → Int64}
variable {S N : Nat} {sd : Nat → Bool} {e1 e2 pr fm : Nat → Nat} {l : List Nat}
/-- what TWINS answers -/
def twP (N : Nat) (sd : Nat → Bool) (e1 e2 pr : Nat → Nat) (l : List Nat) (r : Int32) : Prop := ∀ k, k < 32 → (bt r k = true ↔ k ∈ net e1 e2 sd l ∧ inN e1 e2 (fun k => 1000 - pr k) N sd k)
theorem tw_uq {r r' : Int32} (h : twP N sd e1 e2 pr l r) (g : twP N sd e1 e2 pr l r') : r = r' := b_ext fun k hk => Bool.eq_iff_iff.mpr ((h k hk).trans (g k hk).symm)
theorem k_twins (hT : w.1.stackTraces = false) (hq : kQ I S N sd e1 e2 pr fm l) : ∃ J r, kfr J I ∧ twP N sd e1 e2 pr l r ∧ ab_PU w (d + 3) mt_K_twins [.ref kx] I L n nc ns r J := by
  obtain ⟨⟨⟨p1, p2, p3, p4, p5, p6, p7, p8⟩, c2, c3, c4, c5, c6⟩, -⟩ := id hq
  have cp : ∃ J, kfr J I ∧ J kx_trial 0 = nI S ∧ J kx_trial 1 = nI N ∧ J kx_trial 2 = I kx_now_cables 2 ∧ (∀ k, k < N → J kx_trial_first k = nI (e1 k) ∧ J kx_trial_second k = nI (e2 k) ∧ J kx_trial_price k = nI (pr k)) ∧ ab_U w (d + 2) mt_Cables_copy [.ref kx_trial, .ref kx_now_cables] I L n nc ns J := by
    refine ⟨_, ?_, ?_, ?_, ?_, ?_, ab_C_of (by decide) rfl (Nat.le_of_ble_eq_true rfl) hT (r_Cables_copy_0_0 hT (Nat.le_refl _) (Nat.le_refl _) rfl)⟩
    · intro c hc
      have ne : ∀ c', kscr c' → c ≠ c' := fun c' h e => hc (e ▸ h)
      rw [ab_row_ne (ne _ (by unfold kscr; decide)), ab_row_ne (ne _ (by unfold kscr; decide)), ab_row_ne (ne _ (by unfold kscr; decide)), ab_row_ne (ne _ (by unfold kscr; decide)), ab_row_ne (ne _ (by unfold kscr; decide)), ab_up_o (ne _ (by unfold kscr; decide)), ab_up_o (ne _ (by unfold kscr; decide)), ab_up_o (ne _ (by unfold kscr; decide))]
    · simp (disch := first | omega | decide) only [p1, nl_add1, nl_add2, nl_mul1, nl_mul2, nl_sub1, nl_lt1, nl_lt2, nl_le1, nl_le2, nl_eq1, nl_eq2, nl_m1, nl_m2, nl_inT, nI_add, nI_mul, nI_leI, nI_ltI, nI_eq, nI_clamp, nl_bit, oI_n, oI_s, oI_m1, true_and, and_true, eq_self, Bool.false_eq_true, not_false_eq_true, not_true_eq_false, false_implies, true_implies, implies_true, forall_const, Nat.not_lt_zero, ab_row_eq, ab_row_ne, ab_up_i, ab_up_o, pk_us, pk_un, ab_row_row]
    · simp (disch := first | omega | decide) only [p2, nl_add1, nl_add2, nl_mul1, nl_mul2, nl_sub1, nl_lt1, nl_lt2, nl_le1, nl_le2, nl_eq1, nl_eq2, nl_m1, nl_m2, nl_inT, nI_add, nI_mul, nI_leI, nI_ltI, nI_eq, nI_clamp, nl_bit, oI_n, oI_s, oI_m1, true_and, and_true, eq_self, Bool.false_eq_true, not_false_eq_true, not_true_eq_false, false_implies, true_implies, implies_true, forall_const, Nat.not_lt_zero, ab_row_eq, ab_row_ne, ab_up_i, ab_up_o, pk_us, pk_un, ab_row_row]
    · simp (disch := first | omega | decide) only [p2, nl_add1, nl_add2, nl_mul1, nl_mul2, nl_sub1, nl_lt1, nl_lt2, nl_le1, nl_le2, nl_eq1, nl_eq2, nl_m1, nl_m2, nl_inT, nI_add, nI_mul, nI_leI, nI_ltI, nI_eq, nI_clamp, nl_bit, oI_n, oI_s, oI_m1, true_and, and_true, eq_self, Bool.false_eq_true, not_false_eq_true, not_true_eq_false, false_implies, true_implies, implies_true, forall_const, Nat.not_lt_zero, ab_row_eq, ab_row_ne, ab_up_i, ab_up_o, pk_us, pk_un, ab_row_row]
    · intro k hk
      obtain ⟨q1, q2, q3, -⟩ := p8 k hk
      have hk24 : k < 24 := by omega
      simp (disch := first | omega | decide) only [va_cpy_in, q1, q2, q3, nl_add1, nl_add2, nl_mul1, nl_mul2, nl_sub1, nl_lt1, nl_lt2, nl_le1, nl_le2, nl_eq1, nl_eq2, nl_m1, nl_m2, nl_inT, nI_add, nI_mul, nI_leI, nI_ltI, nI_eq, nI_clamp, nl_bit, oI_n, oI_s, oI_m1, true_and, and_true, eq_self, Bool.false_eq_true, not_false_eq_true, not_true_eq_false, false_implies, true_implies, implies_true, forall_const, Nat.not_lt_zero, ab_row_eq, ab_row_ne, ab_up_i, ab_up_o, pk_us, pk_un, ab_row_row]
  obtain ⟨J, a1, a2, a3, a4, a5, a6⟩ := cp
  have loop : ∀ m i (K : Nat → Nat → Int32), i + m = N → (∀ c, c ≠ kx_trial_price → K c = J c) → (∀ k, k < N → K kx_trial_price k = nI (if k < i then 1000 - pr k else pr k)) → ∃ K' r, kfr K' I ∧ twP N sd e1 e2 pr l r ∧ ab_E w ((d + 2) + 1) mt_K_twins 16 [.ref kx, .int (nI i)] [] (K, L, ab_RR, n, nc, ns) (.inl (some (.int r)), (K', L, ab_RR, n, nc, ns)) := by
    intro m
    induction m with
    | zero =>
      intro i K hi h1 h2
      have e : i = N := by omega
      subst e
      have t1 : K kx_trial 1 = nI i := by rw [h1 _ (by decide)]; exact a3
      have h3 : ∀ k, k < i → K kx_trial_price k = nI (1000 - pr k) ∧ 1000 - pr k ≤ 999 := fun k hk => ⟨by rw [h2 k hk, if_pos hk], by have := (c6 k hk).2.2.1; omega⟩
      obtain ⟨g, l2, g1, g2, g3, g4⟩ := s1_ok (w := w) (d := d + 2) (n := n) (nc := nc) (ns := ns) (L := L) hT t1 p4 h3
      obtain ⟨K2, k1, k2⟩ := g1_ok (w := w) (d := d) (n := n) (nc := nc) (ns := ns) (I := ab_row K kx_trial_order g) (L := L) (S := S) (N := i) (e1 := e1) (e2 := e2) (pr := fun k => 1000 - pr k) (l := l2) hT ⟨by rw [ab_row_ne (by decide), h1 _ (by decide)]; exact a2, by rw [ab_row_ne (by decide)]; exact t1, p3, p4, od_len g1, fun j hj => by rw [ab_row_eq]; exact g2 j hj, fun k hk => (g1.2 k).mp hk, fun k hk => by
        rw [ab_row_ne (by decide), ab_row_ne (by decide), ab_row_ne (by decide), h1 kx_trial_first (by decide), h1 kx_trial_second (by decide)]
        exact ⟨(a5 k hk).1, (a5 k hk).2.1, (h3 k hk).1, (p8 k hk).2.2.2.1, (p8 k hk).2.2.2.2.1, (h3 k hk).2⟩⟩ (am := sd) (v := (ab_row K kx_trial_order g) kx_trial 2) (fun k hk => by
        rw [ab_row_ne (by decide), h1 _ (by decide), a4]; exact c4 k (by omega))
      have f2 : K2 kx_forest = I kx_forest := by
        rw [k1.1 _ (by decide) (by decide) (by decide), ab_row_ne (by decide), h1 _ (by decide)]; exact a1 _ (by unfold kscr; decide)
      refine ⟨K2, (K2 kx_forest 2) &&& (K2 kx_trialNet 2), fun c hc => ?_, fun k hk => ?_, ?_⟩
      · have ne : ∀ c', kscr c' → c ≠ c' := fun c' h e => hc (e ▸ h)
        rw [k1.1 c (ne _ (by unfold kscr; decide)) (ne _ (by unfold kscr; decide)) (ne _ (by unfold kscr; decide)), ab_row_ne (ne _ (by unfold kscr; decide)), h1 c (ne _ (by unfold kscr; decide))]
        exact a1 c hc
      · have hb : bt (K2 kx_trialNet 2) k = decide (k ∈ net e1 e2 sd l2) := k1.2.2.1 k hk
        rw [b_and, f2, kq_bits hq hk, hb, Bool.and_eq_true, decide_eq_true_iff, decide_eq_true_iff, net_mem (S := S) (pr := fun k => 1000 - pr k) g1 (kq_hw hq.1) sd k]
        exact Iff.rfl
      · refine r_K_twins_16 hT _ (Nat.le_refl _) (Nat.le_refl _) ?_
        exact bb_t (by rw [t1]; exact nI_le (Nat.le_refl _) (by omega)) ⟨_, g4, K2, k2, rfl⟩
    | succ m ih =>
      intro i K hi h1 h2
      have t1 : K kx_trial 1 = nI N := by rw [h1 _ (by decide)]; exact a3
      have hv : K kx_trial_price i = nI (pr i) := by rw [h2 i (by omega), if_neg (by omega)]
      have hp := (p8 i (by omega)).2.2.2.2.2
      obtain ⟨K', r, b1, b2, b3⟩ := ih (i + 1) (ab_up K kx_trial_price i (nI (1000 - pr i))) (by omega) (fun c hc => by rw [ab_up_o hc]; exact h1 c hc) (fun k hk => by
        rw [ab_up_i]
        by_cases e : k = i
        · rw [e, pk_us, if_pos (by omega)]
        · rw [pk_un e, h2 k hk]
          by_cases e2 : k < i
          · rw [if_pos e2, if_pos (by omega)]
          · rw [if_neg e2, if_neg (by omega)])
      refine ⟨K', r, b1, b2, ?_⟩
      refine r_K_twins_16 hT _ (Nat.le_refl _) (Nat.le_refl _) ?_
      refine bb_f (by rw [t1]; exact nI_ge (by omega) (by omega)) ⟨vp_in_nI (by omega) (by omega), ?_⟩
      rw [nI_clamp (by omega), hv, show (1000 : Int32) = nI 1000 from rfl, nI_sub (by omega), nI_1]
      exact b3
  obtain ⟨K', r, b1, b2, b3⟩ := loop N 0 J (by omega) (fun _ _ => rfl) (fun k hk => by rw [if_neg (by omega)]; exact (a5 k hk).2.2)
  refine ⟨K', r, b1, b2, ?_⟩
  refine ab_C_of (by decide) rfl (Nat.le_of_ble_eq_true rfl) hT ?_
  refine r_K_twins_0 hT (Nat.le_refl _) (Nat.le_refl _) ?_
  exact ⟨J, a6, b3⟩
theorem z_twins (hT : w.1.stackTraces = false) (hm : mC I S N sd e1 e2 pr fm l) : ∃ (J : Nat → Nat → Int32) (r : Int32), mfr J I ∧ twP N sd e1 e2 pr l r ∧ ab_PU w (d + 4) mt_M_twins [.ref mx] I L n nc ns r J := by
  obtain ⟨I1, r1, a1, a2, a3⟩ := z_netNow (w := w) (d := d) (n := n) (nc := nc) (ns := ns) (L := L) hT hm
  obtain ⟨⟨p1, p2, p3, p4, p5, p6⟩, m2, m3, m4, m5⟩ := id hm
  have f1 := mfr_nm a1
  obtain ⟨l2, hl2⟩ := od_ex (fun k => 1000 - pr k) N
  have hw : ∀ k, k < N → e1 k < S ∧ e2 k < S := fun k hk => ⟨(p6 k hk).2.2.2.1, (p6 k hk).2.2.2.2.1⟩
  have back : ∀ m i (K : Nat → Nat → Int32) (v : Int32), i + m = N → (∀ c, ¬ mscr c → c ≠ mx_now → K c = I c) → (∀ k, mkf k → K mx k = I mx k) → (∀ j, (j < 51 ∨ 51 + N ≤ j ∨ j < 51 + i) → K mx_now j = I mx_now j) → (∀ k, k < N → K mx_pricesThen k = nI (pr k)) → ∃ J, mfr J I ∧ ab_E w ((d + 3) + 1) mt_M_twins 57 [.ref mx, .int r1, .int v, .int (nI i)] [] (K, L, ab_RR, n, nc, ns) (.inl (some (.int (r1 &&& v))), (J, L, ab_RR, n, nc, ns)) := by
    intro m
    induction m with
    | zero =>
      intro i K v hi h1 h2 h3 h4
      have e : i = N := by omega
      subst e
      refine ⟨K, ⟨fun c hc => ?_, h2⟩, ?_⟩
      · by_cases ec : c = mx_now
        · subst ec; exact funext fun j => h3 j (by omega)
        · exact h1 c hc ec
      · refine r_M_twins_57 hT _ _ _ (Nat.le_refl _) (Nat.le_refl _) ?_
        exact bb_t (by rw [h3 0 (by omega), p2]; exact nI_le (Nat.le_refl _) (by omega)) rfl
    | succ m ih =>
      intro i K v hi h1 h2 h3 h4
      obtain ⟨J, b1, b2⟩ := ih (i + 1) (ab_up K mx_now (51 + i) (nI (pr i))) v (by omega) (fun c hc hn => by rw [ab_up_o hn]; exact h1 c hc hn) (fun k hk => by rw [ab_up_o (by decide)]; exact h2 k hk) (fun j hj => by
        rw [ab_up_i]
        by_cases e : j = 51 + i
        · rw [e, pk_us]; exact (p6 i (by omega)).2.2.1.symm
        · rw [pk_un e]; exact h3 j (by omega)) (fun k hk => by rw [ab_up_o (by decide)]; exact h4 k hk)
      refine ⟨J, b1, ?_⟩
      have q1 := h4 i (by omega)
      have q0 : K mx_now 0 = nI N := by rw [h3 0 (by omega)]; exact p2
      have hNi : ¬ N ≤ i := by omega
      refine r_M_twins_57 hT _ _ _ (Nat.le_refl _) (Nat.le_refl _) ?_
      simp (disch := first | omega | decide) only [q0, hNi, q1, nl_add1, nl_add2, nl_mul1, nl_mul2, nl_sub1, nl_lt1, nl_lt2, nl_le1, nl_le2, nl_eq1, nl_eq2, nl_m1, nl_m2, nl_inT, nI_add, nI_mul, nI_leI, nI_ltI, nI_eq, nI_clamp, nl_bit, oI_n, oI_s, oI_m1, true_and, and_true, eq_self, Bool.false_eq_true, not_false_eq_true, not_true_eq_false, false_implies, true_implies, implies_true, forall_const, Nat.not_lt_zero, ab_row_eq, ab_row_ne, ab_up_i, ab_up_o, pk_us, pk_un, ab_row_row]
      exact b2
  have forth : ∀ m i (K : Nat → Nat → Int32), i + m = N → (∀ c, ¬ mscr c → c ≠ mx_now → K c = I c) → (∀ k, mkf k → K mx k = I mx k) → (∀ j, (j < 51 ∨ 51 + i ≤ j) → K mx_now j = I mx_now j) → (∀ k, k < i → K mx_now (51 + k) = nI (1000 - pr k)) → (∀ k, k < i → K mx_pricesThen k = nI (pr k)) → ∃ J r, mfr J I ∧ twP N sd e1 e2 pr l r ∧ ab_E w ((d + 3) + 1) mt_M_twins 7 [.ref mx, .int r1, .int (nI i), .null] [] (K, L, ab_RR, n, nc, ns) (.inl (some (.int r)), (J, L, ab_RR, n, nc, ns)) := by
    intro m
    induction m with
    | zero =>
      intro i K hi h1 h2 h3 h4 h5
      have e : i = N := by omega
      subst e
      have hm2 : mC K S i sd e1 e2 (fun k => 1000 - pr k) fm l2 := by
        refine ⟨⟨by rw [h2 2 (Or.inr (Or.inl rfl))]; exact p1, by rw [h3 0 (by omega)]; exact p2, p3, p4, hl2, fun k hk => ?_⟩, m2, fun k hk => by rw [h3 1 (by omega)]; exact m3 k hk, m4, fun k hk => ?_⟩
        · obtain ⟨q1, q2, q3, q4, q5, q6⟩ := p6 k hk
          exact ⟨by rw [h3 _ (by omega)]; exact q1, by rw [h3 _ (by omega)]; exact q2, h4 k hk, q4, q5, by have := (m5 k hk).2.2.1; show 1000 - pr k ≤ 999; omega⟩
        · obtain ⟨q1, q2, q3, q4⟩ := m5 k hk
          have := (p6 k hk).2.2.2.2.2
          exact ⟨by rw [h3 _ (by omega)]; exact q1, q2, by show 1 ≤ 1000 - pr k; omega, q4⟩
      obtain ⟨K2, r2, k1, k2, k3⟩ := z_netNow (w := w) (d := d) (n := n) (nc := nc) (ns := ns) (L := L) hT hm2
      have f2 := mfr_nm k1
      obtain ⟨J, j1, j2⟩ := back i 0 K2 r2 (by omega) (fun c hc hn => by rw [f2.1 c hc]; exact h1 c hc hn) (fun k hk => by rw [f2.2 k hk]; exact h2 k hk) (fun j hj => by rw [mfr_now f2]; exact h3 j (by omega)) (fun k hk => by rw [k1.1 _ (by decide) (by decide) (by decide)]; exact h5 k hk)
      refine ⟨J, r1 &&& r2, j1, fun k hk => ?_, ?_⟩
      · rw [b_and, a2 k hk, k2 k hk, Bool.and_eq_true, decide_eq_true_iff, decide_eq_true_iff, net_mem (S := S) (pr := fun k => 1000 - pr k) hl2 hw sd k]
        exact Iff.rfl
      · refine r_M_twins_7 hT _ _ (Nat.le_refl _) (Nat.le_refl _) ?_
        exact bb_t (by rw [h3 0 (by omega), p2]; exact nI_le (Nat.le_refl _) (by omega)) ⟨r2, K2, k3, j2⟩
    | succ m ih =>
      intro i K hi h1 h2 h3 h4 h5
      have hp := (p6 i (by omega)).2.2.2.2.2
      have hv : K mx_now (51 + i) = nI (pr i) := by rw [h3 _ (by omega)]; exact (p6 i (by omega)).2.2.1
      obtain ⟨J, r, b1, b2, b3⟩ := ih (i + 1) (ab_up (ab_up K mx_pricesThen i (nI (pr i))) mx_now (51 + i) (nI (1000 - pr i))) (by omega) (fun c hc hn => by rw [ab_up_o hn, ab_up_o (fun e => hc (by rw [e]; unfold mscr; decide))]; exact h1 c hc hn) (fun k hk => by rw [ab_up_o (by decide), ab_up_o (by decide)]; exact h2 k hk) (fun j hj => by
        rw [ab_up_i, pk_un (by omega), ab_up_o (by decide)]; exact h3 j (by omega)) (fun k hk => by
        rw [ab_up_i]
        by_cases e : k = i
        · rw [e, pk_us]
        · rw [pk_un (by omega), ab_up_o (by decide)]; exact h4 k (by omega)) (fun k hk => by
        rw [ab_up_o (by decide), ab_up_i]
        by_cases e : k = i
        · rw [e, pk_us]
        · rw [pk_un e]; exact h5 k (by omega))
      refine ⟨J, r, b1, b2, ?_⟩
      have q0 : K mx_now 0 = nI N := by rw [h3 0 (by omega)]; exact p2
      have hNi : ¬ N ≤ i := by omega
      have hsub : (1000 : Int32) - nI (pr i) = nI (1000 - pr i) := by rw [show (1000 : Int32) = nI 1000 from rfl, nI_sub (by omega)]
      refine r_M_twins_7 hT _ _ (Nat.le_refl _) (Nat.le_refl _) ?_
      simp (disch := first | omega | decide) only [q0, hNi, hv, hsub, nl_add1, nl_add2, nl_mul1, nl_mul2, nl_sub1, nl_lt1, nl_lt2, nl_le1, nl_le2, nl_eq1, nl_eq2, nl_m1, nl_m2, nl_inT, nI_add, nI_mul, nI_leI, nI_ltI, nI_eq, nI_clamp, nl_bit, oI_n, oI_s, oI_m1, true_and, and_true, eq_self, Bool.false_eq_true, not_false_eq_true, not_true_eq_false, false_implies, true_implies, implies_true, forall_const, Nat.not_lt_zero, ab_row_eq, ab_row_ne, ab_up_i, ab_up_o, pk_us, pk_un, ab_row_row]
      exact b3
  obtain ⟨J, r, b1, b2, b3⟩ := forth N 0 I1 (by omega) (fun c hc _ => f1.1 c hc) (fun k hk => f1.2 k hk) (fun j _ => by rw [mfr_now f1]) (fun k hk => absurd hk (Nat.not_lt_zero k)) (fun k hk => absurd hk (Nat.not_lt_zero k))
  refine ⟨J, r, b1, b2, ?_⟩
  refine ab_C_of (by decide) rfl (Nat.le_of_ble_eq_true rfl) hT ?_
  refine r_M_twins_0 hT (Nat.le_refl _) (Nat.le_refl _) ?_
  exact ⟨r1, I1, a3, b3⟩
end KTW
