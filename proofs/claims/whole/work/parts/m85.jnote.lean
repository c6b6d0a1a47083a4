/-! NOTE, FORGET, FAULT, ALIKE side by side -/
def jV (w : ab_Wd) (d : Nat) (mk mm : ab_Me) (I : Nat → Nat → Int32) (L : Nat → Nat → Int64) (n nc ns : Nat) (T : Nat) : Prop := ∃ J, ab_U w d mk [.ref kx] I L n nc ns J ∧ ∀ L n nc ns, ∃ K, ab_U w d mm [.ref mx] J L n nc ns K ∧ RR K T
section JNO
variable {w : ab_Wd} {d n nc ns : Nat} {I : Nat → Nat → Int32} {L : Nat → Nat → Int64}
variable {T : Nat}
/-- behind a note, or without notes -/
theorem RR_note {K : Nat → Nat → Int32} {T' mn' : Nat} {cb' : Nat → Nat} {ib' : Nat → Bool} (hT : T ≤ T') (g : RR I T) (fK : ∀ c, c ≠ kx_now → c ≠ mx_notedCable → c ≠ mx_notedIn → c ≠ mx → K c = I c) (fm : ∀ k, k ≠ 1 → k ≠ 43 → K mx k = I mx k) (h3 : K kx_now 3 = nI mn') (hN : nR K mn' cb' ib') : RR K T' := by
  obtain ⟨S, ⟨N, sd, e1, e2, pr, fm', l, E, h, o, m, ac, rr, mn, cb, ib, hs, hn⟩, ht, hi⟩ := g
  obtain ⟨y1, y2, y3, y4, y5, y6, y7, y8, y9, y10, y11⟩ := hs
  have zz : ∀ c, (c ≠ kx_now ∧ c ≠ mx_notedCable ∧ c ≠ mx_notedIn ∧ c ≠ mx) → K c = I c := fun c h => fK c h.1 h.2.1 h.2.2.1 h.2.2.2
  have kx' := zz kx (by decide)
  refine ⟨S, ⟨N, sd, e1, e2, pr, fm', l, E, h, o, m, ac, rr, mn', cb', ib', ⟨kC_cong (zz _ (by decide)) (zz _ (by decide)) (zz _ (by decide)) (zz _ (by decide)) (zz _ (by decide)) (zz _ (by decide)) y1, mC_mar (fm 2 (by decide) (by decide)) (fun j _ _ => by rw [zz mx_now (by decide)]) y2, cH_cong (zz _ (by decide)) (zz _ (by decide)) y3, by rw [zz mx_now (by decide)]; exact y4, aK_cong (zz _ (by decide)) (zz _ (by decide)) (zz _ (by decide)) (zz _ (by decide)) (zz _ (by decide)) y5, ⟨by rw [fm 41 (by decide) (by decide)]; exact y6.1, y6.2.1, fun a ha j hj => by rw [zz mx_past (by decide)]; exact y6.2.2 a ha j hj⟩, y7, by omega, h3, hN, ?_⟩, kN_cong (fun c hc => ?_) hn⟩, TP_fr (by rw [kx']) (by rw [kx']) (fm 17 (by decide) (by decide)) (fm 8 (by decide) (by decide)) (zz _ (by decide)) (zz _ (by decide)) ht, IM_fr hT (fun c hc => ?_) (by rw [kx']) (fm 2 (by decide) (by decide)) (fm 52 (by decide) (by decide)) (fm 53 (by decide) (by decide)) (fm 54 (by decide) (by decide)) hi⟩
  · unfold rfE
    rw [zz kx_now_refused (by decide), zz mx_status (by decide)]; exact y11
  · unfold knc at hc
    rcases hc with e | e | e | e | e | e | e | e <;> subst e <;> exact zz _ (by decide)
  · unfold ic at hc
    rcases hc with e | e | e | e | e | e | e | e | e | e | e | e | e | e | e | e | e | e | e | e <;> subst e <;> exact zz _ (by decide)
theorem j_note (hT : w.1.stackTraces = false) (g : RR I T) (v u : Int32) : jA w (d + 16) mt_K_note mt_M_note [.int v, .int u] I L n nc ns (T + 1) := by
  obtain ⟨S, ⟨N, sd, e1, e2, pr, fm, l, E, h, o, m, ac, rr, mn, cb, ib, hs, hn⟩, ht, hi⟩ := id g
  obtain ⟨v1, v2, v3, v4, v5⟩ := hs.2.2.2.2.2.2.2.2.2.1
  have k3 : I kx_now 3 = nI mn := hs.2.2.2.2.2.2.2.2.1
  have c1 : I kx_now_cables 1 = nI N := hs.1.1.2.1
  have z1 : I mx_now 0 = nI N := hs.2.1.1.2.1
  have p4 := hs.1.1.2.2.2.1
  have ref := ref_ok (i := 2) (Or.inr rfl) g
  have zJ0 : (ab_up I kx_now_refused 2 (I kx_now_refused 2 + 1)) mx 43 = nI mn := by rw [ab_up_o (by decide)]; exact v1
  have zJ1 : (ab_up I kx_now_refused 2 (I kx_now_refused 2 + 1)) mx_now 0 = nI N := by rw [ab_up_o (by decide)]; exact z1
  by_cases h8 : mn = 8
  · refine ⟨-1, (ab_up I kx_now_refused 2 (I kx_now_refused 2 + 1)), ?_, fun L n nc ns => ⟨_, ?_, ref⟩⟩
    · refine ab_C_of (by decide) rfl (Nat.le_of_ble_eq_true rfl) hT ?_
      refine r_K_note_0 hT _ _ (Nat.le_refl _) (Nat.le_refl _) ?_
      rw [k3, h8]
      exact bb_t (by decide) rfl
    · refine ab_C_of (by decide) rfl (Nat.le_of_ble_eq_true rfl) hT ?_
      refine r_M_note_0 hT _ _ (Nat.le_refl _) (Nat.le_refl _) ?_
      rw [zJ0, h8]
      exact bb_t rfl rfl
  have n8 : ¬ 8 ≤ nI mn := fun h => by have := (nI_leI (a := 8) (by omega) (by omega)).mp h; omega
  have m8 : ¬ nI mn = 8 := fun h => h8 ((nI_eq (b := 8) (by omega) (by omega)).mp h)
  rcases v_rng v N (by omega) with ⟨k, hk, e⟩ | hv | ⟨hv1, hv2, hv3, hv4⟩
  · subst e
    obtain ⟨a1, a2, a3, a4⟩ := v_rg1 hk (by omega)
    have bits : ∀ (x : Int32) (j : Nat), j < 32 → (bt (x ||| ((1 : Int32) <<< (nI k &&& 31))) j = true ↔ bt x j = true ∨ j = k) := fun x j hj => by
      rw [b_or, ab_sh1 (by omega) hj, Bool.or_eq_true, decide_eq_true_iff]
    by_cases hu : u = 0
    · refine ⟨nI (mn + 1), ab_up (ab_up I kx_now 5 ((I kx_now 5) ||| ((1 : Int32) <<< (nI k &&& 31)))) kx_now 3 (nI (mn + 1)), ?_, fun L n nc ns => ⟨_, ?_, RR_note (mn' := mn + 1) (cb' := un cb mn k) (ib' := un ib mn false) (Nat.le_succ T) g (K := ab_up (ab_up (ab_up (ab_up (ab_up (ab_up I kx_now 5 ((I kx_now 5) ||| ((1 : Int32) <<< (nI k &&& 31)))) kx_now 3 (nI (mn + 1))) mx 1 0) mx_notedCable mn (nI k)) mx_notedIn mn 0) mx 43 (nI (mn + 1))) (fun c h1 h2 h3 h4 => by rw [ab_up_o h4, ab_up_o h3, ab_up_o h2, ab_up_o h4, ab_up_o h1, ab_up_o h1]) (fun k h1 h2 => by rw [ab_up_i, pk_un h2]; simp (disch := first | omega | decide) only [pk_un h1, nl_add1, nl_add2, nl_mul1, nl_mul2, nl_sub1, nl_lt1, nl_lt2, nl_le1, nl_le2, nl_eq1, nl_eq2, nl_m1, nl_m2, nl_inT, nI_add, nI_mul, nI_leI, nI_ltI, nI_eq, nI_clamp, nl_bit, oI_n, oI_s, oI_m1, true_and, and_true, eq_self, Bool.false_eq_true, not_false_eq_true, not_true_eq_false, false_implies, true_implies, implies_true, forall_const, Nat.not_lt_zero, ab_row_eq, ab_row_ne, ab_up_i, ab_up_o, pk_us, pk_un, ab_row_row]) (by simp (disch := first | omega | decide) only [nl_add1, nl_add2, nl_mul1, nl_mul2, nl_sub1, nl_lt1, nl_lt2, nl_le1, nl_le2, nl_eq1, nl_eq2, nl_m1, nl_m2, nl_inT, nI_add, nI_mul, nI_leI, nI_ltI, nI_eq, nI_clamp, nl_bit, oI_n, oI_s, oI_m1, true_and, and_true, eq_self, Bool.false_eq_true, not_false_eq_true, not_true_eq_false, false_implies, true_implies, implies_true, forall_const, Nat.not_lt_zero, ab_row_eq, ab_row_ne, ab_up_i, ab_up_o, pk_us, pk_un, ab_row_row]) ⟨by rw [ab_up_i, pk_us], by omega, fun i hi => ?_, fun j hj => ?_, fun j hj => ?_⟩⟩⟩
      · refine ab_C_of (by decide) rfl (Nat.le_of_ble_eq_true rfl) hT ?_
        refine r_K_note_0 hT _ _ (Nat.le_refl _) (Nat.le_refl _) ?_
        rw [k3, c1, nI_1]
        exact bb_f n8 (bb_f a1 (bb_f a2 (bb_t hu rfl)))
      · refine ab_C_of (by decide) rfl (Nat.le_of_ble_eq_true rfl) hT ?_
        refine r_M_note_0 hT _ _ (Nat.le_refl _) (Nat.le_refl _) ?_
        rw [show (ab_up (ab_up I kx_now 5 ((I kx_now 5) ||| ((1 : Int32) <<< (nI k &&& 31)))) kx_now 3 (nI (mn + 1))) mx 43 = nI mn by simp (disch := first | omega | decide) only [v1, nl_add1, nl_add2, nl_mul1, nl_mul2, nl_sub1, nl_lt1, nl_lt2, nl_le1, nl_le2, nl_eq1, nl_eq2, nl_m1, nl_m2, nl_inT, nI_add, nI_mul, nI_leI, nI_ltI, nI_eq, nI_clamp, nl_bit, oI_n, oI_s, oI_m1, true_and, and_true, eq_self, Bool.false_eq_true, not_false_eq_true, not_true_eq_false, false_implies, true_implies, implies_true, forall_const, Nat.not_lt_zero, ab_row_eq, ab_row_ne, ab_up_i, ab_up_o, pk_us, pk_un, ab_row_row], show (ab_up (ab_up I kx_now 5 ((I kx_now 5) ||| ((1 : Int32) <<< (nI k &&& 31)))) kx_now 3 (nI (mn + 1))) mx_now 0 = nI N by simp (disch := first | omega | decide) only [z1, nl_add1, nl_add2, nl_mul1, nl_mul2, nl_sub1, nl_lt1, nl_lt2, nl_le1, nl_le2, nl_eq1, nl_eq2, nl_m1, nl_m2, nl_inT, nI_add, nI_mul, nI_leI, nI_ltI, nI_eq, nI_clamp, nl_bit, oI_n, oI_s, oI_m1, true_and, and_true, eq_self, Bool.false_eq_true, not_false_eq_true, not_true_eq_false, false_implies, true_implies, implies_true, forall_const, Nat.not_lt_zero, ab_row_eq, ab_row_ne, ab_up_i, ab_up_o, pk_us, pk_un, ab_row_row], nI_1, nI_clamp (by omega)]
        exact bb_f m8 (bb_f a1 (bb_f a3 ⟨vp_in_nI (by omega) (by omega), bb_t hu rfl⟩))
      · rw [show (ab_up (ab_up (ab_up (ab_up (ab_up (ab_up I kx_now 5 ((I kx_now 5) ||| ((1 : Int32) <<< (nI k &&& 31)))) kx_now 3 (nI (mn + 1))) mx 1 0) mx_notedCable mn (nI k)) mx_notedIn mn 0) mx 43 (nI (mn + 1))) mx_notedCable = upd (I mx_notedCable) mn (nI k) by simp (disch := first | omega | decide) only [nl_add1, nl_add2, nl_mul1, nl_mul2, nl_sub1, nl_lt1, nl_lt2, nl_le1, nl_le2, nl_eq1, nl_eq2, nl_m1, nl_m2, nl_inT, nI_add, nI_mul, nI_leI, nI_ltI, nI_eq, nI_clamp, nl_bit, oI_n, oI_s, oI_m1, true_and, and_true, eq_self, Bool.false_eq_true, not_false_eq_true, not_true_eq_false, false_implies, true_implies, implies_true, forall_const, Nat.not_lt_zero, ab_row_eq, ab_row_ne, ab_up_i, ab_up_o, pk_us, pk_un, ab_row_row], show (ab_up (ab_up (ab_up (ab_up (ab_up (ab_up I kx_now 5 ((I kx_now 5) ||| ((1 : Int32) <<< (nI k &&& 31)))) kx_now 3 (nI (mn + 1))) mx 1 0) mx_notedCable mn (nI k)) mx_notedIn mn 0) mx 43 (nI (mn + 1))) mx_notedIn = upd (I mx_notedIn) mn 0 by simp (disch := first | omega | decide) only [nl_add1, nl_add2, nl_mul1, nl_mul2, nl_sub1, nl_lt1, nl_lt2, nl_le1, nl_le2, nl_eq1, nl_eq2, nl_m1, nl_m2, nl_inT, nI_add, nI_mul, nI_leI, nI_ltI, nI_eq, nI_clamp, nl_bit, oI_n, oI_s, oI_m1, true_and, and_true, eq_self, Bool.false_eq_true, not_false_eq_true, not_true_eq_false, false_implies, true_implies, implies_true, forall_const, Nat.not_lt_zero, ab_row_eq, ab_row_ne, ab_up_i, ab_up_o, pk_us, pk_un, ab_row_row]]
        by_cases e : i = mn
        · rw [e, pk_us, pk_us, un_s, un_s]
          exact ⟨rfl, by omega, rfl⟩
        · rw [pk_un e, pk_un e, un_o e, un_o e]
          exact v3 i (by omega)
      · rw [show (ab_up (ab_up (ab_up (ab_up (ab_up (ab_up I kx_now 5 ((I kx_now 5) ||| ((1 : Int32) <<< (nI k &&& 31)))) kx_now 3 (nI (mn + 1))) mx 1 0) mx_notedCable mn (nI k)) mx_notedIn mn 0) mx 43 (nI (mn + 1))) kx_now 4 = I kx_now 4 by simp (disch := first | omega | decide) only [nl_add1, nl_add2, nl_mul1, nl_mul2, nl_sub1, nl_lt1, nl_lt2, nl_le1, nl_le2, nl_eq1, nl_eq2, nl_m1, nl_m2, nl_inT, nI_add, nI_mul, nI_leI, nI_ltI, nI_eq, nI_clamp, nl_bit, oI_n, oI_s, oI_m1, true_and, and_true, eq_self, Bool.false_eq_true, not_false_eq_true, not_true_eq_false, false_implies, true_implies, implies_true, forall_const, Nat.not_lt_zero, ab_row_eq, ab_row_ne, ab_up_i, ab_up_o, pk_us, pk_un, ab_row_row], v4 j hj]
        constructor
        · rintro ⟨i, h1, h2, h3⟩
          exact ⟨i, by omega, by rw [un_o (by omega)]; exact h2, by rw [un_o (by omega)]; exact h3⟩
        · rintro ⟨i, h1, h2, h3⟩
          by_cases e : i = mn
          · rw [e, un_s] at h3; cases h3
          · rw [un_o e] at h2 h3; exact ⟨i, by omega, h2, h3⟩
      · rw [show (ab_up (ab_up (ab_up (ab_up (ab_up (ab_up I kx_now 5 ((I kx_now 5) ||| ((1 : Int32) <<< (nI k &&& 31)))) kx_now 3 (nI (mn + 1))) mx 1 0) mx_notedCable mn (nI k)) mx_notedIn mn 0) mx 43 (nI (mn + 1))) kx_now 5 = (I kx_now 5) ||| ((1 : Int32) <<< (nI k &&& 31)) by simp (disch := first | omega | decide) only [nl_add1, nl_add2, nl_mul1, nl_mul2, nl_sub1, nl_lt1, nl_lt2, nl_le1, nl_le2, nl_eq1, nl_eq2, nl_m1, nl_m2, nl_inT, nI_add, nI_mul, nI_leI, nI_ltI, nI_eq, nI_clamp, nl_bit, oI_n, oI_s, oI_m1, true_and, and_true, eq_self, Bool.false_eq_true, not_false_eq_true, not_true_eq_false, false_implies, true_implies, implies_true, forall_const, Nat.not_lt_zero, ab_row_eq, ab_row_ne, ab_up_i, ab_up_o, pk_us, pk_un, ab_row_row], bits _ j hj, v5 j hj]
        constructor
        · rintro (⟨i, h1, h2, h3⟩ | e)
          · exact ⟨i, by omega, by rw [un_o (by omega)]; exact h2, by rw [un_o (by omega)]; exact h3⟩
          · exact ⟨mn, by omega, by rw [un_s]; exact e.symm, un_s⟩
        · rintro ⟨i, h1, h2, h3⟩
          by_cases e : i = mn
          · rw [e, un_s] at h2; exact Or.inr h2.symm
          · rw [un_o e] at h2 h3; exact Or.inl ⟨i, by omega, h2, h3⟩
    · refine ⟨nI (mn + 1), ab_up (ab_up I kx_now 4 ((I kx_now 4) ||| ((1 : Int32) <<< (nI k &&& 31)))) kx_now 3 (nI (mn + 1)), ?_, fun L n nc ns => ⟨_, ?_, RR_note (mn' := mn + 1) (cb' := un cb mn k) (ib' := un ib mn true) (Nat.le_succ T) g (K := ab_up (ab_up (ab_up (ab_up (ab_up (ab_up I kx_now 4 ((I kx_now 4) ||| ((1 : Int32) <<< (nI k &&& 31)))) kx_now 3 (nI (mn + 1))) mx 1 0) mx_notedCable mn (nI k)) mx_notedIn mn 1) mx 43 (nI (mn + 1))) (fun c h1 h2 h3 h4 => by rw [ab_up_o h4, ab_up_o h3, ab_up_o h2, ab_up_o h4, ab_up_o h1, ab_up_o h1]) (fun k h1 h2 => by rw [ab_up_i, pk_un h2]; simp (disch := first | omega | decide) only [pk_un h1, nl_add1, nl_add2, nl_mul1, nl_mul2, nl_sub1, nl_lt1, nl_lt2, nl_le1, nl_le2, nl_eq1, nl_eq2, nl_m1, nl_m2, nl_inT, nI_add, nI_mul, nI_leI, nI_ltI, nI_eq, nI_clamp, nl_bit, oI_n, oI_s, oI_m1, true_and, and_true, eq_self, Bool.false_eq_true, not_false_eq_true, not_true_eq_false, false_implies, true_implies, implies_true, forall_const, Nat.not_lt_zero, ab_row_eq, ab_row_ne, ab_up_i, ab_up_o, pk_us, pk_un, ab_row_row]) (by simp (disch := first | omega | decide) only [nl_add1, nl_add2, nl_mul1, nl_mul2, nl_sub1, nl_lt1, nl_lt2, nl_le1, nl_le2, nl_eq1, nl_eq2, nl_m1, nl_m2, nl_inT, nI_add, nI_mul, nI_leI, nI_ltI, nI_eq, nI_clamp, nl_bit, oI_n, oI_s, oI_m1, true_and, and_true, eq_self, Bool.false_eq_true, not_false_eq_true, not_true_eq_false, false_implies, true_implies, implies_true, forall_const, Nat.not_lt_zero, ab_row_eq, ab_row_ne, ab_up_i, ab_up_o, pk_us, pk_un, ab_row_row]) ⟨by rw [ab_up_i, pk_us], by omega, fun i hi => ?_, fun j hj => ?_, fun j hj => ?_⟩⟩⟩
      · refine ab_C_of (by decide) rfl (Nat.le_of_ble_eq_true rfl) hT ?_
        refine r_K_note_0 hT _ _ (Nat.le_refl _) (Nat.le_refl _) ?_
        rw [k3, c1, nI_1]
        exact bb_f n8 (bb_f a1 (bb_f a2 (bb_f hu rfl)))
      · refine ab_C_of (by decide) rfl (Nat.le_of_ble_eq_true rfl) hT ?_
        refine r_M_note_0 hT _ _ (Nat.le_refl _) (Nat.le_refl _) ?_
        rw [show (ab_up (ab_up I kx_now 4 ((I kx_now 4) ||| ((1 : Int32) <<< (nI k &&& 31)))) kx_now 3 (nI (mn + 1))) mx 43 = nI mn by simp (disch := first | omega | decide) only [v1, nl_add1, nl_add2, nl_mul1, nl_mul2, nl_sub1, nl_lt1, nl_lt2, nl_le1, nl_le2, nl_eq1, nl_eq2, nl_m1, nl_m2, nl_inT, nI_add, nI_mul, nI_leI, nI_ltI, nI_eq, nI_clamp, nl_bit, oI_n, oI_s, oI_m1, true_and, and_true, eq_self, Bool.false_eq_true, not_false_eq_true, not_true_eq_false, false_implies, true_implies, implies_true, forall_const, Nat.not_lt_zero, ab_row_eq, ab_row_ne, ab_up_i, ab_up_o, pk_us, pk_un, ab_row_row], show (ab_up (ab_up I kx_now 4 ((I kx_now 4) ||| ((1 : Int32) <<< (nI k &&& 31)))) kx_now 3 (nI (mn + 1))) mx_now 0 = nI N by simp (disch := first | omega | decide) only [z1, nl_add1, nl_add2, nl_mul1, nl_mul2, nl_sub1, nl_lt1, nl_lt2, nl_le1, nl_le2, nl_eq1, nl_eq2, nl_m1, nl_m2, nl_inT, nI_add, nI_mul, nI_leI, nI_ltI, nI_eq, nI_clamp, nl_bit, oI_n, oI_s, oI_m1, true_and, and_true, eq_self, Bool.false_eq_true, not_false_eq_true, not_true_eq_false, false_implies, true_implies, implies_true, forall_const, Nat.not_lt_zero, ab_row_eq, ab_row_ne, ab_up_i, ab_up_o, pk_us, pk_un, ab_row_row], nI_1, nI_clamp (by omega)]
        exact bb_f m8 (bb_f a1 (bb_f a3 ⟨vp_in_nI (by omega) (by omega), bb_f hu rfl⟩))
      · rw [show (ab_up (ab_up (ab_up (ab_up (ab_up (ab_up I kx_now 4 ((I kx_now 4) ||| ((1 : Int32) <<< (nI k &&& 31)))) kx_now 3 (nI (mn + 1))) mx 1 0) mx_notedCable mn (nI k)) mx_notedIn mn 1) mx 43 (nI (mn + 1))) mx_notedCable = upd (I mx_notedCable) mn (nI k) by simp (disch := first | omega | decide) only [nl_add1, nl_add2, nl_mul1, nl_mul2, nl_sub1, nl_lt1, nl_lt2, nl_le1, nl_le2, nl_eq1, nl_eq2, nl_m1, nl_m2, nl_inT, nI_add, nI_mul, nI_leI, nI_ltI, nI_eq, nI_clamp, nl_bit, oI_n, oI_s, oI_m1, true_and, and_true, eq_self, Bool.false_eq_true, not_false_eq_true, not_true_eq_false, false_implies, true_implies, implies_true, forall_const, Nat.not_lt_zero, ab_row_eq, ab_row_ne, ab_up_i, ab_up_o, pk_us, pk_un, ab_row_row], show (ab_up (ab_up (ab_up (ab_up (ab_up (ab_up I kx_now 4 ((I kx_now 4) ||| ((1 : Int32) <<< (nI k &&& 31)))) kx_now 3 (nI (mn + 1))) mx 1 0) mx_notedCable mn (nI k)) mx_notedIn mn 1) mx 43 (nI (mn + 1))) mx_notedIn = upd (I mx_notedIn) mn 1 by simp (disch := first | omega | decide) only [nl_add1, nl_add2, nl_mul1, nl_mul2, nl_sub1, nl_lt1, nl_lt2, nl_le1, nl_le2, nl_eq1, nl_eq2, nl_m1, nl_m2, nl_inT, nI_add, nI_mul, nI_leI, nI_ltI, nI_eq, nI_clamp, nl_bit, oI_n, oI_s, oI_m1, true_and, and_true, eq_self, Bool.false_eq_true, not_false_eq_true, not_true_eq_false, false_implies, true_implies, implies_true, forall_const, Nat.not_lt_zero, ab_row_eq, ab_row_ne, ab_up_i, ab_up_o, pk_us, pk_un, ab_row_row]]
        by_cases e : i = mn
        · rw [e, pk_us, pk_us, un_s, un_s]
          exact ⟨rfl, by omega, rfl⟩
        · rw [pk_un e, pk_un e, un_o e, un_o e]
          exact v3 i (by omega)
      · rw [show (ab_up (ab_up (ab_up (ab_up (ab_up (ab_up I kx_now 4 ((I kx_now 4) ||| ((1 : Int32) <<< (nI k &&& 31)))) kx_now 3 (nI (mn + 1))) mx 1 0) mx_notedCable mn (nI k)) mx_notedIn mn 1) mx 43 (nI (mn + 1))) kx_now 4 = (I kx_now 4) ||| ((1 : Int32) <<< (nI k &&& 31)) by simp (disch := first | omega | decide) only [nl_add1, nl_add2, nl_mul1, nl_mul2, nl_sub1, nl_lt1, nl_lt2, nl_le1, nl_le2, nl_eq1, nl_eq2, nl_m1, nl_m2, nl_inT, nI_add, nI_mul, nI_leI, nI_ltI, nI_eq, nI_clamp, nl_bit, oI_n, oI_s, oI_m1, true_and, and_true, eq_self, Bool.false_eq_true, not_false_eq_true, not_true_eq_false, false_implies, true_implies, implies_true, forall_const, Nat.not_lt_zero, ab_row_eq, ab_row_ne, ab_up_i, ab_up_o, pk_us, pk_un, ab_row_row], bits _ j hj, v4 j hj]
        constructor
        · rintro (⟨i, h1, h2, h3⟩ | e)
          · exact ⟨i, by omega, by rw [un_o (by omega)]; exact h2, by rw [un_o (by omega)]; exact h3⟩
          · exact ⟨mn, by omega, by rw [un_s]; exact e.symm, un_s⟩
        · rintro ⟨i, h1, h2, h3⟩
          by_cases e : i = mn
          · rw [e, un_s] at h2; exact Or.inr h2.symm
          · rw [un_o e] at h2 h3; exact Or.inl ⟨i, by omega, h2, h3⟩
      · rw [show (ab_up (ab_up (ab_up (ab_up (ab_up (ab_up I kx_now 4 ((I kx_now 4) ||| ((1 : Int32) <<< (nI k &&& 31)))) kx_now 3 (nI (mn + 1))) mx 1 0) mx_notedCable mn (nI k)) mx_notedIn mn 1) mx 43 (nI (mn + 1))) kx_now 5 = I kx_now 5 by simp (disch := first | omega | decide) only [nl_add1, nl_add2, nl_mul1, nl_mul2, nl_sub1, nl_lt1, nl_lt2, nl_le1, nl_le2, nl_eq1, nl_eq2, nl_m1, nl_m2, nl_inT, nI_add, nI_mul, nI_leI, nI_ltI, nI_eq, nI_clamp, nl_bit, oI_n, oI_s, oI_m1, true_and, and_true, eq_self, Bool.false_eq_true, not_false_eq_true, not_true_eq_false, false_implies, true_implies, implies_true, forall_const, Nat.not_lt_zero, ab_row_eq, ab_row_ne, ab_up_i, ab_up_o, pk_us, pk_un, ab_row_row], v5 j hj]
        constructor
        · rintro ⟨i, h1, h2, h3⟩
          exact ⟨i, by omega, by rw [un_o (by omega)]; exact h2, by rw [un_o (by omega)]; exact h3⟩
        · rintro ⟨i, h1, h2, h3⟩
          by_cases e : i = mn
          · rw [e, un_s] at h3; cases h3
          · rw [un_o e] at h2 h3; exact ⟨i, by omega, h2, h3⟩
  · refine ⟨-1, (ab_up I kx_now_refused 2 (I kx_now_refused 2 + 1)), ?_, fun L n nc ns => ⟨_, ?_, ref⟩⟩
    · refine ab_C_of (by decide) rfl (Nat.le_of_ble_eq_true rfl) hT ?_
      refine r_K_note_0 hT _ _ (Nat.le_refl _) (Nat.le_refl _) ?_
      rw [k3]
      exact bb_f n8 (bb_t hv rfl)
    · refine ab_C_of (by decide) rfl (Nat.le_of_ble_eq_true rfl) hT ?_
      refine r_M_note_0 hT _ _ (Nat.le_refl _) (Nat.le_refl _) ?_
      rw [zJ0]
      exact bb_f m8 (bb_t hv rfl)
  · refine ⟨-1, (ab_up I kx_now_refused 2 (I kx_now_refused 2 + 1)), ?_, fun L n nc ns => ⟨_, ?_, ref⟩⟩
    · refine ab_C_of (by decide) rfl (Nat.le_of_ble_eq_true rfl) hT ?_
      refine r_K_note_0 hT _ _ (Nat.le_refl _) (Nat.le_refl _) ?_
      rw [k3, c1]
      exact bb_f n8 (bb_f hv1 (bb_t hv2 rfl))
    · refine ab_C_of (by decide) rfl (Nat.le_of_ble_eq_true rfl) hT ?_
      refine r_M_note_0 hT _ _ (Nat.le_refl _) (Nat.le_refl _) ?_
      rw [zJ0, zJ1]
      exact bb_f m8 (bb_f hv1 (bb_t hv3 rfl))
theorem j_forget (hT : w.1.stackTraces = false) (g : RR I T) : jV w (d + 16) mt_K_forget mt_M_forget I L n nc ns (T + 1) := by
  have z0 : ∀ j, j < 32 → bt (0 : Int32) j = false := fun j hj => by
    have : ∀ j : Fin 32, bt (0 : Int32) j.1 = false := by decide
    exact this ⟨j, hj⟩
  refine ⟨ab_up (ab_up (ab_up I kx_now 3 0) kx_now 4 0) kx_now 5 0, ?_, fun L n nc ns => ⟨ab_up (ab_up (ab_up (ab_up (ab_up I kx_now 3 0) kx_now 4 0) kx_now 5 0) mx 1 0) mx 43 0, ?_, RR_note (mn' := 0) (cb' := fun _ => 0) (ib' := fun _ => true) (Nat.le_succ T) g (fun c h1 h2 h3 h4 => by rw [ab_up_o h4, ab_up_o h4, ab_up_o h1, ab_up_o h1, ab_up_o h1]) (fun k h1 h2 => by rw [ab_up_i, pk_un h2, ab_up_i, pk_un h1, ab_up_o (by decide), ab_up_o (by decide), ab_up_o (by decide)]) (by simp (disch := first | omega | decide) only [nl_add1, nl_add2, nl_mul1, nl_mul2, nl_sub1, nl_lt1, nl_lt2, nl_le1, nl_le2, nl_eq1, nl_eq2, nl_m1, nl_m2, nl_inT, nI_add, nI_mul, nI_leI, nI_ltI, nI_eq, nI_clamp, nl_bit, oI_n, oI_s, oI_m1, true_and, and_true, eq_self, Bool.false_eq_true, not_false_eq_true, not_true_eq_false, false_implies, true_implies, implies_true, forall_const, Nat.not_lt_zero, ab_row_eq, ab_row_ne, ab_up_i, ab_up_o, pk_us, pk_un, ab_row_row]) ⟨by rw [ab_up_i, pk_us]; rfl, by omega, fun i hi => absurd hi (Nat.not_lt_zero i), fun j hj => ?_, fun j hj => ?_⟩⟩⟩
  · refine ab_C_of (by decide) rfl (Nat.le_of_ble_eq_true rfl) hT ?_
    refine q_K_forget_0 (Nat.le_refl _) (Nat.le_refl _) ?_
    refine ⟨_, ?_, rfl⟩
    refine ab_C_of (by decide) rfl (Nat.le_of_ble_eq_true rfl) hT ?_
    refine q_State_forgetNoted_0 (Nat.le_refl _) (Nat.le_refl _) ?_
    rfl
  · refine ab_C_of (by decide) rfl (Nat.le_of_ble_eq_true rfl) hT ?_
    refine q_M_forget_0 (Nat.le_refl _) (Nat.le_refl _) ?_
    rfl
  · rw [show (ab_up (ab_up (ab_up (ab_up (ab_up I kx_now 3 0) kx_now 4 0) kx_now 5 0) mx 1 0) mx 43 0) kx_now 4 = 0 by simp (disch := first | omega | decide) only [nl_add1, nl_add2, nl_mul1, nl_mul2, nl_sub1, nl_lt1, nl_lt2, nl_le1, nl_le2, nl_eq1, nl_eq2, nl_m1, nl_m2, nl_inT, nI_add, nI_mul, nI_leI, nI_ltI, nI_eq, nI_clamp, nl_bit, oI_n, oI_s, oI_m1, true_and, and_true, eq_self, Bool.false_eq_true, not_false_eq_true, not_true_eq_false, false_implies, true_implies, implies_true, forall_const, Nat.not_lt_zero, ab_row_eq, ab_row_ne, ab_up_i, ab_up_o, pk_us, pk_un, ab_row_row], z0 j hj]
    exact ⟨fun h => absurd h (by decide), fun ⟨i, h, _⟩ => absurd h (Nat.not_lt_zero i)⟩
  · rw [show (ab_up (ab_up (ab_up (ab_up (ab_up I kx_now 3 0) kx_now 4 0) kx_now 5 0) mx 1 0) mx 43 0) kx_now 5 = 0 by simp (disch := first | omega | decide) only [nl_add1, nl_add2, nl_mul1, nl_mul2, nl_sub1, nl_lt1, nl_lt2, nl_le1, nl_le2, nl_eq1, nl_eq2, nl_m1, nl_m2, nl_inT, nI_add, nI_mul, nI_leI, nI_ltI, nI_eq, nI_clamp, nl_bit, oI_n, oI_s, oI_m1, true_and, and_true, eq_self, Bool.false_eq_true, not_false_eq_true, not_true_eq_false, false_implies, true_implies, implies_true, forall_const, Nat.not_lt_zero, ab_row_eq, ab_row_ne, ab_up_i, ab_up_o, pk_us, pk_un, ab_row_row], z0 j hj]
    exact ⟨fun h => absurd h (by decide), fun ⟨i, h, _⟩ => absurd h (Nat.not_lt_zero i)⟩
theorem j_fault (hT : w.1.stackTraces = false) (g : RR I T) : jA w (d + 16) mt_K_fault mt_M_fault [] I L n nc ns (T + 1) := by
  refine ⟨I kx 2, I, ?_, fun L n nc ns => ⟨ab_up I mx 1 0, ?_, RR_q (Nat.le_succ T) kfr_refl mgr_c g⟩⟩
  · refine ab_C_of (by decide) rfl (Nat.le_of_ble_eq_true rfl) hT ?_
    refine q_K_fault_0 (Nat.le_refl _) (Nat.le_refl _) ?_
    rfl
  · obtain ⟨S, h1, h2, h3⟩ := g
    rw [h2.1]
    refine ab_C_of (by decide) rfl (Nat.le_of_ble_eq_true rfl) hT ?_
    refine q_M_fault_0 (Nat.le_refl _) (Nat.le_refl _) ?_
    rfl
theorem j_alike (hT : w.1.stackTraces = false) (g : RR I T) (hT9 : T ≤ 1000) : ∃ (r : Int64) (J : Nat → Nat → Int32) (L2 : Nat → Nat → Int64), ab_C w (d + 16) mt_K_alike [.ref kx] (I, L, ab_RR, n, nc, ns) (.inl (some (.long r)), (J, L2, ab_RR, n, nc, ns)) ∧ ∃ (K : Nat → Nat → Int32) (L3 : Nat → Nat → Int64), ab_C w (d + 16) mt_M_alike [.ref mx] (J, L2, ab_RR, n, nc, ns) (.inl (some (.long r)), (K, L3, ab_RR, n, nc, ns)) ∧ RR K (T + 1) := by
  obtain ⟨S, N, sd, e1, e2, pr, fm, l, hq, _, _⟩ := RR_Q g hT9
  obtain ⟨J, L2, f1, f2, u1⟩ := k_countNets (d := d + 12) (w := w) (n := n) (nc := nc) (ns := ns) (L := L) hT hq.1.1
  have kf : kfr J I := fun c hc => f1 c (fun e => hc (by rw [e]; unfold kscr; decide)) (fun e => hc (by rw [e]; unfold kscr; decide)) (fun e => hc (by rw [e]; unfold kscr; decide))
  obtain ⟨K, L3, g1, g2, u2⟩ := z_alike (d := d + 12) (w := w) (n := n) (nc := nc) (ns := ns) (L := L2) hT (mC_kfr kf hq.2.1)
  refine ⟨_, J, L2, ?_, K, L3, u2, RR_q (Nat.le_succ T) kf g1 g⟩
  refine ab_C_of (by decide) rfl (Nat.le_of_ble_eq_true rfl) hT ?_
  refine r_K_alike_0 hT (Nat.le_refl _) (Nat.le_refl _) ?_
  exact ⟨_, _, _, u1, rfl⟩
end JNO
