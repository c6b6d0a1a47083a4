/-! NET side by side: the two together -/
section JN2
variable {w : ab_Wd} {d n nc ns : Nat} {I : Nat → Nat → Int32} {L : Nat → Nat → Int64}
variable {T : Nat}
theorem RR_any {K : Nat → Nat → Int32} {T' : Nat} (hT : T ≤ T') (q : ceq K I) (hr : rfE K) (hk : ∀ c, knc c → K c = I c) (ht : TP K) (hi : ∀ c, ic c → K c = I c) (k5 : K kx 5 = I kx 5) (m2 : K mx 2 = I mx 2) (m52 : K mx 52 = I mx 52) (m53 : K mx 53 = I mx 53) (m54 : K mx 54 = I mx 54) (g : RR I T) : RR K T' := by
  obtain ⟨S, ⟨N, sd, e1, e2, pr, fm', l, E, h, o, m, ac, rr, mn, cb, ib, hs, hn⟩, _, him⟩ := g
  exact ⟨S, ⟨N, sd, e1, e2, pr, fm', l, E, h, o, m, ac, rr, mn, cb, ib, SP_T hT (SP_cong q hr hs), kN_cong hk hn⟩, ht, IM_fr hT hi k5 m2 m52 m53 m54 him⟩
theorem va_cpy_at {f g : Nat → Int32} {n k : Nat} (h : k < n) : va_cpy f g 0 0 n k = f k := cpy_at h
/-- a text is taken over -/
theorem k_begin (hT : w.1.stackTraces = false) {c : Cb} (h : cBt I c) (ho : ∀ i, i < c.2.1 → I kx_trial_order i = nI ((lo c.2.2.2.2.2.1 c.2.1).getD i 0)) : ∃ J, (∀ a, a ≠ kx_now → a ≠ kx_now_cables → a ≠ kx_now_cables_first → a ≠ kx_now_cables_second → a ≠ kx_now_cables_price → a ≠ kx_now_cables_firm → a ≠ kx_now_cables_order → a ≠ kx_now_swaps → a ≠ kx_now_acts → J a = I a) ∧ kC J c.1 c.2.1 c.2.2.1 c.2.2.2.1 c.2.2.2.2.1 c.2.2.2.2.2.1 c.2.2.2.2.2.2 (lo c.2.2.2.2.2.1 c.2.1) ∧ J kx_now_swaps 1 = 0 ∧ J kx_now_acts 4 = 0 ∧ J kx_now_acts 5 = 0 ∧ J kx_now 3 = 0 ∧ J kx_now 4 = 0 ∧ J kx_now 5 = 0 ∧ ab_U w (d + 2) mt_State_begin [.ref kx_now, .ref kx_trial] I L n nc ns J := by
  obtain ⟨b0, b1, b2, b3, b4, b5, b6, b7⟩ := h
  obtain ⟨I2, h2⟩ : ∃ K, K = ab_row (ab_row (ab_row (ab_row (ab_row (ab_up (ab_up (ab_up I kx_now_cables 0 (I kx_trial 0)) kx_now_cables 1 (I kx_trial 1)) kx_now_cables 2 (I kx_trial 2)) kx_now_cables_first (va_cpy (I kx_trial_first) (I kx_now_cables_first) 0 0 24)) kx_now_cables_second (va_cpy (I kx_trial_second) (I kx_now_cables_second) 0 0 24)) kx_now_cables_price (va_cpy (I kx_trial_price) (I kx_now_cables_price) 0 0 24)) kx_now_cables_firm (va_cpy (I kx_trial_firm) (I kx_now_cables_firm) 0 0 24)) kx_now_cables_order (va_cpy (I kx_trial_order) (I kx_now_cables_order) 0 0 24) := ⟨_, rfl⟩
  obtain ⟨J, hJ⟩ : ∃ K, K = ab_up (ab_up (ab_up (ab_up (ab_up (ab_up I2 kx_now_swaps 1 0) kx_now_acts 4 0) kx_now_acts 5 0) kx_now 3 0) kx_now 4 0) kx_now 5 0 := ⟨_, rfl⟩
  have fJ : ∀ a, a ≠ kx_now → a ≠ kx_now_swaps → a ≠ kx_now_acts → J a = I2 a := fun a a1 a2 a3 => by rw [hJ, ab_up_o a1, ab_up_o a1, ab_up_o a1, ab_up_o a3, ab_up_o a3, ab_up_o a2]
  have c0 : J kx_now_cables = upd (upd (upd (I kx_now_cables) 0 (I kx_trial 0)) 1 (I kx_trial 1)) 2 (I kx_trial 2) := by
    rw [fJ _ (by decide) (by decide) (by decide), h2, ab_row_ne (by decide), ab_row_ne (by decide), ab_row_ne (by decide), ab_row_ne (by decide), ab_row_ne (by decide), ab_up_i, ab_up_i, ab_up_i]
  have c1 : J kx_now_cables_first = va_cpy (I kx_trial_first) (I kx_now_cables_first) 0 0 24 := by
    rw [fJ _ (by decide) (by decide) (by decide), h2, ab_row_ne (by decide), ab_row_ne (by decide), ab_row_ne (by decide), ab_row_ne (by decide), ab_row_eq]
  have c2 : J kx_now_cables_second = va_cpy (I kx_trial_second) (I kx_now_cables_second) 0 0 24 := by
    rw [fJ _ (by decide) (by decide) (by decide), h2, ab_row_ne (by decide), ab_row_ne (by decide), ab_row_ne (by decide), ab_row_eq]
  have c3 : J kx_now_cables_price = va_cpy (I kx_trial_price) (I kx_now_cables_price) 0 0 24 := by
    rw [fJ _ (by decide) (by decide) (by decide), h2, ab_row_ne (by decide), ab_row_ne (by decide), ab_row_eq]
  have c4 : J kx_now_cables_firm = va_cpy (I kx_trial_firm) (I kx_now_cables_firm) 0 0 24 := by
    rw [fJ _ (by decide) (by decide) (by decide), h2, ab_row_ne (by decide), ab_row_eq]
  have c5 : J kx_now_cables_order = va_cpy (I kx_trial_order) (I kx_now_cables_order) 0 0 24 := by
    rw [fJ _ (by decide) (by decide) (by decide), h2, ab_row_eq]
  have od' := lo_od c.2.2.2.2.2.1 c.2.1
  refine ⟨J, fun a a1 a2 a3 a4 a5 a6 a7 a8 a9 => ?_, ⟨⟨by rw [c0]; exact b0, by rw [c0]; exact b1, b3, b4, od_len od', fun i hi => by rw [c5, cpy_at (by omega)]; exact ho i hi, fun k hk => (od'.2 k).mp hk, fun k hk => ?_⟩, od', b2, fun k hk => by rw [c0]; exact b5 k hk, b6, fun k hk => ?_⟩, ?_, ?_, ?_, ?_, ?_, ?_, ?_⟩
  · rw [fJ a a1 a8 a9, h2, ab_row_ne a7, ab_row_ne a6, ab_row_ne a5, ab_row_ne a4, ab_row_ne a3, ab_up_o a2, ab_up_o a2, ab_up_o a2]
  · obtain ⟨⟨q1, q2, q3, q4⟩, q5, q6, q7, q8, q9, q10⟩ := b7 k hk
    rw [c1, c2, c3, cpy_at (by omega), cpy_at (by omega), cpy_at (by omega)]
    exact ⟨q1, q2, q3, q5, q6, q8⟩
  · obtain ⟨⟨q1, q2, q3, q4⟩, q5, q6, q7, q8, q9, q10⟩ := b7 k hk
    rw [c4, cpy_at (by omega)]
    exact ⟨q4, q9, q7, q10⟩
  · rw [hJ]; simp (disch := first | omega | decide) only [nl_add1, nl_add2, nl_mul1, nl_mul2, nl_sub1, nl_lt1, nl_lt2, nl_le1, nl_le2, nl_eq1, nl_eq2, nl_m1, nl_m2, nl_inT, nI_add, nI_mul, nI_leI, nI_ltI, nI_eq, nI_clamp, nl_bit, oI_n, oI_s, oI_m1, true_and, and_true, eq_self, Bool.false_eq_true, not_false_eq_true, not_true_eq_false, false_implies, true_implies, implies_true, forall_const, Nat.not_lt_zero, ab_row_eq, ab_row_ne, ab_up_i, ab_up_o, pk_us, pk_un, ab_row_row]
  · rw [hJ]; simp (disch := first | omega | decide) only [nl_add1, nl_add2, nl_mul1, nl_mul2, nl_sub1, nl_lt1, nl_lt2, nl_le1, nl_le2, nl_eq1, nl_eq2, nl_m1, nl_m2, nl_inT, nI_add, nI_mul, nI_leI, nI_ltI, nI_eq, nI_clamp, nl_bit, oI_n, oI_s, oI_m1, true_and, and_true, eq_self, Bool.false_eq_true, not_false_eq_true, not_true_eq_false, false_implies, true_implies, implies_true, forall_const, Nat.not_lt_zero, ab_row_eq, ab_row_ne, ab_up_i, ab_up_o, pk_us, pk_un, ab_row_row]
  · rw [hJ]; simp (disch := first | omega | decide) only [nl_add1, nl_add2, nl_mul1, nl_mul2, nl_sub1, nl_lt1, nl_lt2, nl_le1, nl_le2, nl_eq1, nl_eq2, nl_m1, nl_m2, nl_inT, nI_add, nI_mul, nI_leI, nI_ltI, nI_eq, nI_clamp, nl_bit, oI_n, oI_s, oI_m1, true_and, and_true, eq_self, Bool.false_eq_true, not_false_eq_true, not_true_eq_false, false_implies, true_implies, implies_true, forall_const, Nat.not_lt_zero, ab_row_eq, ab_row_ne, ab_up_i, ab_up_o, pk_us, pk_un, ab_row_row]
  · rw [hJ]; simp (disch := first | omega | decide) only [nl_add1, nl_add2, nl_mul1, nl_mul2, nl_sub1, nl_lt1, nl_lt2, nl_le1, nl_le2, nl_eq1, nl_eq2, nl_m1, nl_m2, nl_inT, nI_add, nI_mul, nI_leI, nI_ltI, nI_eq, nI_clamp, nl_bit, oI_n, oI_s, oI_m1, true_and, and_true, eq_self, Bool.false_eq_true, not_false_eq_true, not_true_eq_false, false_implies, true_implies, implies_true, forall_const, Nat.not_lt_zero, ab_row_eq, ab_row_ne, ab_up_i, ab_up_o, pk_us, pk_un, ab_row_row]
  · rw [hJ]; simp (disch := first | omega | decide) only [nl_add1, nl_add2, nl_mul1, nl_mul2, nl_sub1, nl_lt1, nl_lt2, nl_le1, nl_le2, nl_eq1, nl_eq2, nl_m1, nl_m2, nl_inT, nI_add, nI_mul, nI_leI, nI_ltI, nI_eq, nI_clamp, nl_bit, oI_n, oI_s, oI_m1, true_and, and_true, eq_self, Bool.false_eq_true, not_false_eq_true, not_true_eq_false, false_implies, true_implies, implies_true, forall_const, Nat.not_lt_zero, ab_row_eq, ab_row_ne, ab_up_i, ab_up_o, pk_us, pk_un, ab_row_row]
  · rw [hJ]; simp (disch := first | omega | decide) only [nl_add1, nl_add2, nl_mul1, nl_mul2, nl_sub1, nl_lt1, nl_lt2, nl_le1, nl_le2, nl_eq1, nl_eq2, nl_m1, nl_m2, nl_inT, nI_add, nI_mul, nI_leI, nI_ltI, nI_eq, nI_clamp, nl_bit, oI_n, oI_s, oI_m1, true_and, and_true, eq_self, Bool.false_eq_true, not_false_eq_true, not_true_eq_false, false_implies, true_implies, implies_true, forall_const, Nat.not_lt_zero, ab_row_eq, ab_row_ne, ab_up_i, ab_up_o, pk_us, pk_un, ab_row_row]
  · refine ab_C_of (by decide) rfl (Nat.le_of_ble_eq_true rfl) hT ?_
    refine r_State_begin_0 hT (Nat.le_refl _) (Nat.le_refl _) ?_
    refine ⟨I2, ?_, by rw [← hJ]⟩
    rw [h2]
    refine ab_C_of (by decide) rfl (Nat.le_of_ble_eq_true rfl) hT ?_
    refine r_Cables_copy_1_0 hT (Nat.le_refl _) (Nat.le_refl _) ?_
    rfl
theorem j_net (hT : w.1.stackTraces = false) (g : RR I T) (v : Int32) :
    (∃ r J, ab_C w (d + 16) mt_K_net [.ref kx, .int v] (I, L, ab_RR, 91, nc, ns) (.inl (some (.int r)), (J, ab_row L kx_reader (fun _ => 0), ab_RR, 92, nc + 1, ns + 9)) ∧ ∀ L n nc ns, ∃ K, ab_PU w (d + 16) mt_M_net [.ref mx, .int v] J L n nc ns r K ∧ K mx 1 = 0 ∧ RR K (T + 1))
    ∨ (ab_C w (d + 16) mt_K_net [.ref kx, .int v] (I, L, ab_RR, 91, nc, ns) (.inr "java/lang/IllegalArgumentException", (I, L, ab_RR, 91, nc + 1, ns + 6)) ∧ ∀ L n nc ns, ∃ r K, mgr K I ∧ K mx 1 = 1 ∧ ab_PU w (d + 16) mt_M_net [.ref mx, .int v] I L n nc ns r K) := by
  obtain ⟨S0, nw, ⟨t1, f, b, t2, t3, t4, t5⟩, him⟩ := id g
  have hrf : rfE I := by
    obtain ⟨N, sd, e1, e2, pr, fm', l, E, h, o, m, ac, rr, mn, cb, ib, hs, hn⟩ := nw
    exact hs.2.2.2.2.2.2.2.2.2.2
  rcases v_cs v f (by omega) with ⟨Z, hZ, e, a1, a2⟩ | ⟨_, hout⟩
  case inr =>
    right
    have lf : ∀ x : Int32, nI f < x → ¬ x ≤ nI f := fun x h g => by
      rw [Int32.lt_iff_toInt_lt] at h; rw [Int32.le_iff_toInt_le] at g; omega
    refine ⟨?_, fun L n nc ns => ⟨0, _, mgr_x.1, mgr_x.2, ?_⟩⟩
    · refine ab_C_of (by decide) rfl (Nat.le_of_ble_eq_true rfl) hT ?_
      refine r_K_net_0 (n := 91) hT _ (by omega) (Nat.le_add_right _ _) (Nat.le_add_right _ _) ?_
      rw [t2]
      rcases hout with h | ⟨h1, h2⟩
      · exact bb_t h rfl
      · exact bb_f h1 (bb_f (lf v h2) rfl)
    · refine ab_C_of (by decide) rfl (Nat.le_of_ble_eq_true rfl) hT ?_
      refine r_M_net_0 hT _ (Nat.le_refl _) (Nat.le_refl _) ?_
      rw [t3]
      rcases hout with h | ⟨h1, h2⟩
      · exact bb_t h rfl
      · exact bb_f h1 (bb_f (lf v h2) rfl)
  left
  subst e
  have zf : nI Z ≤ nI f := (nI_leI (by omega) (by omega)).mpr hZ
  obtain ⟨I3, hI3⟩ : ∃ K, K = (ab_up (ab_up (ab_up (ab_up (ab_up (ab_up (ab_up (ab_row I kx_reader (fun _ => 0)) kx_reader 3 0) kx_reader 4 0) kx_reader 5 0) kx_reader 6 0) kx_reader 7 0) kx_reader 8 (-1)) kx_reader 1 (nI Z)) := ⟨_, rfl⟩
  have f3 : ∀ c, c ≠ kx_reader → I3 c = I c := fun c hc => by rw [hI3, ab_up_o hc, ab_up_o hc, ab_up_o hc, ab_up_o hc, ab_up_o hc, ab_up_o hc, ab_up_o hc, ab_row_ne hc]
  have ir := c_rd (w := w) (d := d + 14) (nc := nc + 1) (ns := ns + 9) (I := ab_row I kx_reader (fun _ => 0)) (L := ab_row L kx_reader (fun _ => 0)) (v1 := nI Z) hT
  rw [← hI3] at ir
  have r1 : I3 kx_reader 1 = nI Z := by rw [hI3]; simp (disch := first | omega | decide) only [nl_add1, nl_add2, nl_mul1, nl_mul2, nl_sub1, nl_lt1, nl_lt2, nl_le1, nl_le2, nl_eq1, nl_eq2, nl_m1, nl_m2, nl_inT, nI_add, nI_mul, nI_leI, nI_ltI, nI_eq, nI_clamp, nl_bit, oI_n, oI_s, oI_m1, true_and, and_true, eq_self, Bool.false_eq_true, not_false_eq_true, not_true_eq_false, false_implies, true_implies, implies_true, forall_const, Nat.not_lt_zero, ab_row_eq, ab_row_ne, ab_up_i, ab_up_o, pk_us, pk_un, ab_row_row]
  have r3 : I3 kx_reader 3 = 0 := by rw [hI3]; simp (disch := first | omega | decide) only [nl_add1, nl_add2, nl_mul1, nl_mul2, nl_sub1, nl_lt1, nl_lt2, nl_le1, nl_le2, nl_eq1, nl_eq2, nl_m1, nl_m2, nl_inT, nI_add, nI_mul, nI_leI, nI_ltI, nI_eq, nI_clamp, nl_bit, oI_n, oI_s, oI_m1, true_and, and_true, eq_self, Bool.false_eq_true, not_false_eq_true, not_true_eq_false, false_implies, true_implies, implies_true, forall_const, Nat.not_lt_zero, ab_row_eq, ab_row_ne, ab_up_i, ab_up_o, pk_us, pk_un, ab_row_row]
  have r7 : I3 kx_reader 7 = 0 := by rw [hI3]; simp (disch := first | omega | decide) only [nl_add1, nl_add2, nl_mul1, nl_mul2, nl_sub1, nl_lt1, nl_lt2, nl_le1, nl_le2, nl_eq1, nl_eq2, nl_m1, nl_m2, nl_inT, nI_add, nI_mul, nI_leI, nI_ltI, nI_eq, nI_clamp, nl_bit, oI_n, oI_s, oI_m1, true_and, and_true, eq_self, Bool.false_eq_true, not_false_eq_true, not_true_eq_false, false_implies, true_implies, implies_true, forall_const, Nat.not_lt_zero, ab_row_eq, ab_row_ne, ab_up_i, ab_up_o, pk_us, pk_un, ab_row_row]
  have r8 : I3 kx_reader 8 = -1 := by rw [hI3]; simp (disch := first | omega | decide) only [nl_add1, nl_add2, nl_mul1, nl_mul2, nl_sub1, nl_lt1, nl_lt2, nl_le1, nl_le2, nl_eq1, nl_eq2, nl_m1, nl_m2, nl_inT, nI_add, nI_mul, nI_leI, nI_ltI, nI_eq, nI_clamp, nl_bit, oI_n, oI_s, oI_m1, true_and, and_true, eq_self, Bool.false_eq_true, not_false_eq_true, not_true_eq_false, false_implies, true_implies, implies_true, forall_const, Nat.not_lt_zero, ab_row_eq, ab_row_ne, ab_up_i, ab_up_o, pk_us, pk_un, ab_row_row]
  obtain ⟨I5, r, f5, o5, u5⟩ := k_readText (d := d + 9) (w := w) (n := 92) (nc := nc + 1) (ns := ns + 9) (L := ab_row L kx_reader (fun _ => 0)) (b := b) (Z := Z) hT ⟨r1, by omega, fun j hj => by rw [f3 _ (by decide)]; exact ⟨(t5 j (by omega)).1, (t5 j (by omega)).2.1⟩⟩ r3 r7 r8
  have F5 : ∀ c, ¬ rdc c → I5 c = I c := fun c hc => by rw [f5 c hc, f3 c (fun e => hc (by rw [e]; unfold rdc; decide))]
  have rdk : ∀ c, kscr c ∨ ¬ rdc c := fun c => by
    by_cases e : rdc c
    · left
      unfold rdc at e
      rcases e with e | e | e | e | e | e | e <;> subst e <;> unfold kscr <;> decide
    · exact Or.inr e
  cases ho : rdT b Z with
  | inl p =>
    rw [ho] at o5
    obtain ⟨q1, q2, q3, q4⟩ := o5
    have rn : ¬ r = 0 := fun e => by
      rw [q1] at e
      have := (nI_eq (b := 0) (by omega) (by omega)).mp e
      omega
    obtain ⟨J, hJ⟩ : ∃ K, K = ab_up (ab_up (ab_up I5 kx 1 0) kx 2 (I5 kx_reader 8)) kx_now_refused 0 ((I5 kx_now_refused 0) + 1) := ⟨_, rfl⟩
    have FJ : ∀ c, ¬ rdc c → c ≠ kx → c ≠ kx_now_refused → J c = I c := fun c c1 c2 c3 => by rw [hJ, ab_up_o c3, ab_up_o c2, ab_up_o c2, F5 c c1]
    have jx : ∀ k, J kx k = upd (upd (I kx) 1 0) 2 (nI p.2) k := fun k => by rw [hJ, ab_up_o (by decide), ab_up_i, ab_up_i, F5 kx (by unfold rdc; decide), q4]
    have jr : ∀ k, J kx_now_refused k = upd (I kx_now_refused) 0 (I kx_now_refused 0 + 1) k := fun k => by rw [hJ, ab_up_i, ab_up_o (by decide), ab_up_o (by decide), F5 _ (by unfold rdc; decide)]
    refine ⟨r, J, ?_, fun L n nc ns => ?_⟩
    · refine ab_C_of (by decide) rfl (Nat.le_of_ble_eq_true rfl) hT ?_
      refine r_K_net_0 (n := 91) hT _ (by omega) (Nat.le_add_right _ _) (Nat.le_add_right _ _) ?_
      rw [t2]
      refine bb_f a1 (bb_t zf ⟨⟨Nat.le_refl _, Nat.le_refl _⟩, _, ir, _, _, u5, bb_f rn ?_⟩)
      rw [← hJ]
    · obtain ⟨K, r', I0, x1, x2, x3, x4, x5, x6, u6⟩ := z_net (d := d + 9) (I := J) (w := w) (n := n) (nc := nc) (ns := ns) (L := L) (b := b) (Z := Z) (f := f) hT hZ t4 (by rw [FJ mx (by unfold rdc; decide) (by decide) (by decide)]; exact t3) (fun j hj => by rw [FJ mx_tape (by unfold rdc; decide) (by decide) (by decide)]; exact ⟨(t5 j (by omega)).1, (t5 j (by omega)).2.2⟩)
      rw [ho] at x6
      obtain ⟨y0, y1, y2, y3, y4, y5, y6, y7, y8, y9⟩ := x6
      have er : r' = r := by rw [y1, q1]
      subst er
      have zc : ∀ c, (c ≠ mx ∧ c ≠ mx_reading ∧ c ≠ mx_status) → K c = J c := fun c hc => by rw [y5 c hc.1 hc.2.1 hc.2.2, x1 c hc.1 hc.2.1]
      have zz : ∀ c, ((c ≠ mx ∧ c ≠ mx_reading ∧ c ≠ mx_status) ∧ ¬ rdc c ∧ c ≠ kx ∧ c ≠ kx_now_refused) → K c = I c := fun c hc => by rw [zc c hc.1, FJ c hc.2.1 hc.2.2.1 hc.2.2.2]
      have jm : J mx = I mx := FJ mx (by unfold rdc; decide) (by decide) (by decide)
      have k2 : K mx 2 = I mx 2 := by rw [y6, x2 2 (by decide) (by decide) (by decide) (by decide) (by decide) (by decide) (by decide) (by decide) (by decide) (by decide) (by decide) (by decide), jm]
      have k41 : K mx 41 = I mx 41 := by rw [y7, x2 41 (by decide) (by decide) (by decide) (by decide) (by decide) (by decide) (by decide) (by decide) (by decide) (by decide) (by decide) (by decide), jm]
      have k43 : K mx 43 = I mx 43 := by rw [y8, x2 43 (by decide) (by decide) (by decide) (by decide) (by decide) (by decide) (by decide) (by decide) (by decide) (by decide) (by decide) (by decide), jm]
      have k52 : K mx 52 = I mx 52 := by rw [y9, x2 52 (by decide) (by decide) (by decide) (by decide) (by decide) (by decide) (by decide) (by decide) (by decide) (by decide) (by decide) (by decide), jm]
      have kk : ∀ k, k ≠ 2 → k ≠ 3 → k ≠ 9 → k ≠ 11 → k ≠ 12 → k ≠ 13 → k ≠ 14 → k ≠ 15 → k ≠ 16 → k ≠ 17 → k ≠ 18 → k ≠ 41 → k ≠ 43 → k ≠ 52 → K mx k = I0 mx k := y0
      have k53 : K mx 53 = I mx 53 := by rw [kk 53 (by decide) (by decide) (by decide) (by decide) (by decide) (by decide) (by decide) (by decide) (by decide) (by decide) (by decide) (by decide) (by decide) (by decide), x2 53 (by decide) (by decide) (by decide) (by decide) (by decide) (by decide) (by decide) (by decide) (by decide) (by decide) (by decide) (by decide), jm]
      have k54 : K mx 54 = I mx 54 := by rw [kk 54 (by decide) (by decide) (by decide) (by decide) (by decide) (by decide) (by decide) (by decide) (by decide) (by decide) (by decide) (by decide) (by decide) (by decide), x2 54 (by decide) (by decide) (by decide) (by decide) (by decide) (by decide) (by decide) (by decide) (by decide) (by decide) (by decide) (by decide), jm]
      have k1 : K mx 1 = 0 := by rw [kk 1 (by decide) (by decide) (by decide) (by decide) (by decide) (by decide) (by decide) (by decide) (by decide) (by decide) (by decide) (by decide) (by decide) (by decide)]; exact x3
      have k8 : K mx 8 = 0 := by rw [kk 8 (by decide) (by decide) (by decide) (by decide) (by decide) (by decide) (by decide) (by decide) (by decide) (by decide) (by decide) (by decide) (by decide) (by decide)]; exact x4
      have kx' : ∀ k, K kx k = upd (upd (I kx) 1 0) 2 (nI p.2) k := fun k => by rw [zc kx (by decide)]; exact jx k
      have st0 : ∀ k, I0 mx_status k = I mx_status k := fun k => by rw [x1 _ (by decide) (by decide), FJ mx_status (by unfold rdc; decide) (by decide) (by decide)]
      refine ⟨K, u6, k1, RR_any (Nat.le_succ T) ?_ ?_ (fun c hc => ?_) ⟨by rw [kx', pk_us]; exact y2.symm, 0, fun _ => 0, by rw [kx', pk_un (by decide), pk_us]; rfl, k8, by omega, fun j hj => absurd hj (Nat.not_lt_zero j)⟩ (fun c hc => ?_) (by rw [kx', pk_un (by decide), pk_un (by decide)]) k2 k52 k53 k54 g⟩
      · unfold ceq
        rw [zz kx_now (by unfold rdc; decide), zz kx_now_cables (by unfold rdc; decide), zz kx_now_cables_first (by unfold rdc; decide), zz kx_now_cables_second (by unfold rdc; decide), zz kx_now_cables_price (by unfold rdc; decide), zz kx_now_cables_firm (by unfold rdc; decide), zz kx_now_cables_order (by unfold rdc; decide), zz kx_now_swaps (by unfold rdc; decide), zz kx_now_swaps_rows (by unfold rdc; decide), zz kx_now_acts (by unfold rdc; decide), zz kx_now_acts_prices (by unfold rdc; decide), zz kx_now_acts_counts (by unfold rdc; decide), zz kx_now_acts_sounds (by unfold rdc; decide), zz kx_now_acts_swaps (by unfold rdc; decide), zz mx_now (by unfold rdc; decide), zz mx_past (by unfold rdc; decide), zz mx_notedCable (by unfold rdc; decide), zz mx_notedIn (by unfold rdc; decide)]
        exact ⟨fun _ _ _ => rfl, fun _ _ => rfl, fun _ _ => rfl, fun _ _ => rfl, fun _ _ => rfl, fun _ _ => rfl, fun _ _ => rfl, rfl, fun _ _ => rfl, rfl, rfl, fun _ _ => rfl, fun _ _ => rfl, fun _ _ => rfl, fun _ _ => rfl, fun _ _ => rfl, fun _ _ => rfl, fun _ _ => rfl, fun _ _ => rfl, k2, k41, k43⟩
      · unfold rfE at *
        rw [zc kx_now_refused (by decide), jr, jr, jr, pk_us, pk_un (by decide), pk_un (by decide), y3, y4 1 (by decide), y4 2 (by decide), st0, st0, st0, hrf.1]
        exact ⟨rfl, hrf.2⟩
      · unfold knc at hc
        rcases hc with e | e | e | e | e | e | e | e <;> subst e <;> exact zz _ (by unfold rdc; decide)
      · unfold ic at hc
        rcases hc with e | e | e | e | e | e | e | e | e | e | e | e | e | e | e | e | e | e | e | e <;> subst e <;> exact zz _ (by unfold rdc; decide)
  | inr c =>
    rw [ho] at o5
    obtain ⟨q1, q2, q3, q4⟩ := o5
    obtain ⟨I6, hI6⟩ : ∃ K, K = ab_up (ab_up I5 kx 1 0) kx 2 (I5 kx_reader 8) := ⟨_, rfl⟩
    have F6 : ∀ a, a ≠ kx → I6 a = I5 a := fun a ha => by rw [hI6, ab_up_o ha, ab_up_o ha]
    have cb6 : cBt I6 c := by
      unfold cBt cB at *
      rw [F6 kx_trial (by decide), F6 kx_trial_first (by decide), F6 kx_trial_second (by decide), F6 kx_trial_price (by decide), F6 kx_trial_firm (by decide)]; exact q3
    obtain ⟨I8, g1, g2, g3, g4, g5, g6, g7, g8, u8⟩ := k_begin (d := d + 13) (w := w) (n := 92) (nc := nc + 1) (ns := ns + 9) (L := ab_row L kx_reader (fun _ => 0)) hT cb6 (fun i hi => by rw [F6 _ (by decide)]; exact q4 i hi)
    have fu : ∀ a, a ≠ kx → (ab_up I8 kx 5 0) a = I8 a := fun a ha => ab_up_o ha
    obtain ⟨J, j1, j2, u9⟩ := k_settle (d := d + 11) (w := w) (n := 92) (nc := nc + 1) (ns := ns + 9) (L := ab_row L kx_reader (fun _ => 0)) hT (kC_cong (fu _ (by decide)) (fu _ (by decide)) (fu _ (by decide)) (fu _ (by decide)) (fu _ (by decide)) (fu _ (by decide)) g2)
    have J8 : ∀ a, (¬ knc a ∧ a ≠ kx) → J a = I8 a := fun a ha => by rw [j1 a ha.1, fu a ha.2]
    have JI : ∀ a, (¬ knc a ∧ a ≠ kx ∧ a ≠ kx_now ∧ a ≠ kx_now_cables ∧ a ≠ kx_now_cables_first ∧ a ≠ kx_now_cables_second ∧ a ≠ kx_now_cables_price ∧ a ≠ kx_now_cables_firm ∧ a ≠ kx_now_cables_order ∧ a ≠ kx_now_swaps ∧ a ≠ kx_now_acts ∧ ¬ rdc a) → J a = I a := fun a h => by
      rw [J8 a ⟨h.1, h.2.1⟩, g1 a h.2.2.1 h.2.2.2.1 h.2.2.2.2.1 h.2.2.2.2.2.1 h.2.2.2.2.2.2.1 h.2.2.2.2.2.2.2.1 h.2.2.2.2.2.2.2.2.1 h.2.2.2.2.2.2.2.2.2.1 h.2.2.2.2.2.2.2.2.2.2.1, F6 a h.2.1, F5 a h.2.2.2.2.2.2.2.2.2.2.2]
    have jx : ∀ k, J kx k = upd (upd (upd (I kx) 1 0) 2 (-1)) 5 0 k := fun k => by
      rw [j1 kx (by unfold knc; decide), ab_up_i, g1 kx (by decide) (by decide) (by decide) (by decide) (by decide) (by decide) (by decide) (by decide) (by decide), hI6, ab_up_i, ab_up_i, F5 kx (by unfold rdc; decide), q2]
    refine ⟨0, J, ?_, fun L n nc ns => ?_⟩
    · refine ab_C_of (by decide) rfl (Nat.le_of_ble_eq_true rfl) hT ?_
      refine r_K_net_0 (n := 91) hT _ (by omega) (Nat.le_add_right _ _) (Nat.le_add_right _ _) ?_
      rw [t2]
      refine bb_f a1 (bb_t zf ⟨⟨Nat.le_refl _, Nat.le_refl _⟩, _, ir, _, _, u5, bb_t q1 ⟨I8, ?_, _, u9, rfl⟩⟩)
      rw [← hI6]; exact u8
    · have jm : J mx = I mx := JI mx (by unfold knc rdc; decide)
      obtain ⟨K, r', I0, x1, x2, x3, x4, x5, x6, u6⟩ := z_net (d := d + 9) (I := J) (w := w) (n := n) (nc := nc) (ns := ns) (L := L) (b := b) (Z := Z) (f := f) hT hZ t4 (by rw [jm]; exact t3) (fun j hj => by rw [JI mx_tape (by unfold knc rdc; decide)]; exact ⟨(t5 j (by omega)).1, (t5 j (by omega)).2.2⟩)
      rw [ho] at x6
      obtain ⟨y0, y1, y2, y3, y4, y5, y6, y7, y8, y9, y10, y11⟩ := x6
      subst y1
      have zc : ∀ c, (c ≠ mx ∧ c ≠ mx_reading ∧ c ≠ mx_now) → K c = J c := fun c hc => by rw [y11 c hc.1 hc.2.1 hc.2.2, x1 c hc.1 hc.2.1]
      have zk : ∀ c, c < mx → K c = J c := fun c hc => zc c ⟨fun e => by rw [e] at hc; exact absurd hc (by decide), fun e => by rw [e] at hc; exact absurd hc (by decide), fun e => by rw [e] at hc; exact absurd hc (by decide)⟩
      have kk : ∀ k, k ≠ 2 → k ≠ 3 → k ≠ 9 → k ≠ 11 → k ≠ 12 → k ≠ 13 → k ≠ 14 → k ≠ 15 → k ≠ 16 → k ≠ 17 → k ≠ 18 → k ≠ 41 → k ≠ 43 → k ≠ 52 → K mx k = I0 mx k := y0
      have k1 : K mx 1 = 0 := by rw [kk 1 (by decide) (by decide) (by decide) (by decide) (by decide) (by decide) (by decide) (by decide) (by decide) (by decide) (by decide) (by decide) (by decide) (by decide)]; exact x3
      have k8 : K mx 8 = 0 := by rw [kk 8 (by decide) (by decide) (by decide) (by decide) (by decide) (by decide) (by decide) (by decide) (by decide) (by decide) (by decide) (by decide) (by decide) (by decide)]; exact x4
      have k17 : K mx 17 = -1 := by rw [y10]; exact x5
      have kx' : ∀ k, K kx k = upd (upd (upd (I kx) 1 0) 2 (-1)) 5 0 k := fun k => by rw [zk kx (by decide)]; exact jx k
      obtain ⟨b0, b1, b2, b3, b4, b5, b6, b7⟩ := q3
      have hm : mC K c.1 c.2.1 c.2.2.1 c.2.2.2.1 c.2.2.2.2.1 c.2.2.2.2.2.1 c.2.2.2.2.2.2 (lo c.2.2.2.2.2.1 c.2.1) := by
        refine ⟨⟨y2, y3, b3, b4, lo_od _ _, fun k hk => ?_⟩, b2, y4, b6, fun k hk => ?_⟩
        · obtain ⟨z1, z2, z3, z4⟩ := y6 k hk
          obtain ⟨_, w1, w2, w3, w4, w5, w6⟩ := b7 k hk
          exact ⟨z1, z2, z3, w1, w2, w4⟩
        · obtain ⟨z1, z2, z3, z4⟩ := y6 k hk
          obtain ⟨_, w1, w2, w3, w4, w5, w6⟩ := b7 k hk
          exact ⟨z4, w5, w3, w6⟩
      have z0 : ∀ j, j < 32 → bt (0 : Int32) j = false := fun j _ => b_0 j
      have en : ∀ k, K kx_now k = I8 kx_now k := fun k => by rw [zk _ (by decide), J8 _ (by unfold knc; decide)]
      refine ⟨K, u6, k1, c.1, ⟨c.2.1, c.2.2.1, c.2.2.2.1, c.2.2.2.2.1, c.2.2.2.2.2.1, c.2.2.2.2.2.2, lo c.2.2.2.2.2.1 c.2.1, 0, fun _ _ => 0, 0, 0, fun _ => ct 0 (fun _ => false) (fun _ => 0) 0, fun _ _ => 0, 0, fun _ => 0, fun _ => true, ⟨?_, hm, ?_, ?_, ?_, ?_, ?_, by omega, ?_, ?_, ?_⟩, ?_⟩, ?_, ?_⟩
      · exact kC_cong (zk _ (by decide)) (zk _ (by decide)) (zk _ (by decide)) (zk _ (by decide)) (zk _ (by decide)) (zk _ (by decide)) j2.1
      · refine ⟨by rw [zk _ (by decide), J8 _ (by unfold knc; decide)]; exact g3, Nat.le_refl _, by omega, fun j hj => absurd hj (Nat.not_lt_zero j)⟩
      · exact ⟨y5, fun j hj => absurd hj (Nat.not_lt_zero j)⟩
      · exact ⟨by rw [zk _ (by decide), J8 _ (by unfold knc; decide)]; exact g4, by omega, by rw [zk _ (by decide), J8 _ (by unfold knc; decide)]; exact g5, by omega, fun a ha => absurd ha (Nat.not_lt_zero a)⟩
      · exact ⟨y7, by omega, fun a ha => absurd ha (Nat.not_lt_zero a)⟩
      · exact ⟨fun a ha => absurd ha (Nat.not_lt_zero a), fun a ha => absurd ha (Nat.not_lt_zero (a + 1)), fun a ha => by omega⟩
      · rw [en]; exact g6
      · refine ⟨y8, by omega, fun i hi => absurd hi (Nat.not_lt_zero i), fun k hk => ?_, fun k hk => ?_⟩
        · rw [en, g7, z0 k hk]; exact ⟨fun h => absurd h (by decide), fun ⟨i, h, _⟩ => absurd h (Nat.not_lt_zero i)⟩
        · rw [en, g8, z0 k hk]; exact ⟨fun h => absurd h (by decide), fun ⟨i, h, _⟩ => absurd h (Nat.not_lt_zero i)⟩
      · unfold rfE at *
        rw [zc kx_now_refused (by decide), zc mx_status (by decide), JI kx_now_refused (by unfold knc rdc; decide), JI mx_status (by unfold knc rdc; decide)]
        exact hrf
      · exact kN_cong (fun a ha => zk a (by unfold knc at ha; rcases ha with e | e | e | e | e | e | e | e <;> subst e <;> decide)) j2.2
      · exact ⟨by rw [kx', pk_un (by decide), pk_us]; exact k17.symm, 0, fun _ => 0, by rw [kx', pk_un (by decide), pk_un (by decide), pk_us]; rfl, k8, by omega, fun j hj => absurd hj (Nat.not_lt_zero j)⟩
      · exact ⟨by rw [kx', pk_us]; exact y9.symm, Or.inl (by rw [kx', pk_us])⟩
end JN2
