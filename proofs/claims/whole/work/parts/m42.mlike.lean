/-! LIKE NETS: the model -/
section MLI
variable {w : ab_Wd} {d n nc ns : Nat} {I : Nat → Nat → Int32} {L : Nat → Nat → Int64}
variable {S N : Nat} {sd : Nat → Bool} {e1 e2 pr fm : Nat → Nat} {l : List Nat}
theorem z_determinant (hT : w.1.stackTraces = false) {A : Nat → Nat → Int} {m : Nat} (hm : m ≤ 10) (hg : gnd A 0 m) {f : Nat → Nat} (hf : ∀ i, i < m → A i i = (f i : Int)) (hs : smf f m ≤ 48) (hL : mtL L mx_laplace (fun i j => 10 * i + j) A 0 m) :
    ∃ L', lfr L' L mx_laplace ∧ ab_C w d mt_M_determinant [.ref mx, .int (nI m)] (I, L, ab_RR, n, nc, ns) (.inl (some (.long (lI (pv A m)))), (I, L', ab_RR, n, nc, ns)) := by
  have pb : ∀ k, k ≤ m → 0 < pv A k ∧ pv A k ≤ 43046721 := fun k hk => pv_bound hg hf hs hk
  have main : ∀ q k (L1 : Nat → Nat → Int64), k + q = m → lfr L1 L mx_laplace → mtL L1 mx_laplace (fun i j => 10 * i + j) (DD A k) k m →
      ∃ L', lfr L' L mx_laplace ∧ ab_E w d mt_M_determinant 8 [.ref mx, .int (nI m), .long (lI (pv A k)), .null, .long 1, .null, .int (nI k), .null, .null, .null, .null] [] (I, L1, ab_RR, n, nc, ns) (.inl (some (.long (lI (pv A m)))), (I, L', ab_RR, n, nc, ns)) := by
    intro q
    induction q with
    | zero =>
      intro k L1 hk h1 h2
      have e : k = m := by omega
      refine ⟨L1, h1, ?_⟩
      refine r_M_determinant_8 hT _ _ _ _ (Nat.le_refl _) (Nat.le_refl _) ?_
      refine bb_t (nI_le (by omega) (by omega)) ?_
      rw [e, Int64.one_mul]
    | succ q ih =>
      intro k L1 hk h1 h2
      have hp := pb k (by omega)
      have hall : ∀ t, t ≤ k + 1 → pv A t ≠ 0 := fun t ht => by have := pb t (by omega); omega
      have step : ∀ i j, k < i → i < m → k < j → j < m → (lI (DD A k k k) * lI (DD A k i j) - lI (DD A k i k) * lI (DD A k k j)) / lI (pv A k) = lI (DD A (k + 1) i j) := fun i j hi hi' hj hj' => by
        refine st64 hp.1 hp.2 (DD_bound hg hf hs (by omega) hi' (by omega) hj') ?_
        rw [DD_step hall, DD_pv]
      have lk0 : ¬ lI (pv A k) = 0 := lI_ne0 hp.1 hp.2
      have hkm : ¬ m ≤ k := by omega
      have hpk := pb (k + 1) (by omega)
      have rdk : L1 mx_laplace (10 * k + k) = lI (pv A (k + 1)) := by
        have := h2 k k (Nat.le_refl k) (by omega) (Nat.le_refl k) (by omega)
        rw [DD_pv] at this; exact this
      have cmpk : ¬ lg_cmp (lI (pv A (k + 1))) 0 = 0 := fun h => lI_ne0 hpk.1 hpk.2 ((lg_cmp_eq _ _).mp h)
      generalize hSt : (fun (L2 : Nat → Nat → Int64) (a b : Nat) => lfr L2 L mx_laplace ∧ ∀ i j, k ≤ i → i < m → k ≤ j → j < m → L2 mx_laplace (10 * i + j) = lI (if k < i ∧ k < j ∧ (i < a ∨ (i = a ∧ j < b)) then DD A (k + 1) i j else DD A k i j)) = St
      have outer : ∀ r i (L2 : Nat → Nat → Int64), i + r = m → k < i → St L2 i 0 → ∃ L', lfr L' L mx_laplace ∧ ab_E w d mt_M_determinant 157 [.ref mx, .int (nI m), .long (lI (pv A k)), .null, .long 1, .null, .int (nI k), .int (nI k), .int (nI i), .null, .null] [] (I, L2, ab_RR, n, nc, ns) (.inl (some (.long (lI (pv A m)))), (I, L', ab_RR, n, nc, ns)) := by
        intro r
        induction r with
        | zero =>
          intro i L2 hi hki hS
          have e : i = m := by omega
          subst e
          rw [← hSt] at hS
          obtain ⟨L', g1, g2⟩ := ih (k + 1) L2 (by omega) hS.1 (fun a b h3 h4 h5 h6 => by
            show L2 mx_laplace (10 * a + b) = _
            rw [hS.2 a b (by omega) h4 (by omega) h6, if_pos (by omega)])
          refine ⟨L', g1, ?_⟩
          have rd : L2 mx_laplace (10 * k + k) = lI (pv A (k + 1)) := by
            have := hS.2 k k (Nat.le_refl k) (by omega) (Nat.le_refl k) (by omega)
            rw [if_neg (by omega), DD_pv] at this; exact this
          have hii : i ≤ i := Nat.le_refl i
          refine r_M_determinant_157 hT _ _ _ _ _ _ (Nat.le_refl _) (Nat.le_refl _) ?_
          simp (disch := first | omega | decide) only [hii, rd, nl_add1, nl_add2, nl_mul1, nl_mul2, nl_sub1, nl_lt1, nl_lt2, nl_le1, nl_le2, nl_eq1, nl_eq2, nl_m1, nl_m2, nl_inT, nI_add, nI_mul, nI_leI, nI_ltI, nI_eq, nI_clamp, nl_bit, oI_n, oI_s, oI_m1, true_and, and_true, eq_self, Bool.false_eq_true, not_false_eq_true, not_true_eq_false, false_implies, true_implies, implies_true, forall_const, Nat.not_lt_zero, ab_row_eq, ab_row_ne, ab_up_i, ab_up_o, pk_us, pk_un, ab_row_row]
          exact g2
        | succ r ihr =>
          intro i L2 hi hki hS
          have inner : ∀ t j (L2 : Nat → Nat → Int64), j + t = m → k < j → St L2 i j → ∃ L', lfr L' L mx_laplace ∧ ab_E w d mt_M_determinant 169 [.ref mx, .int (nI m), .long (lI (pv A k)), .null, .long 1, .null, .int (nI k), .int (nI k), .int (nI i), .int (nI j), .null] [] (I, L2, ab_RR, n, nc, ns) (.inl (some (.long (lI (pv A m)))), (I, L', ab_RR, n, nc, ns)) := by
            intro t
            induction t with
            | zero =>
              intro j L2 hj hkj hS
              have e : j = m := by omega
              subst e
              obtain ⟨L', g1, g2⟩ := ihr (i + 1) L2 (by omega) (by omega) (by
                rw [← hSt] at hS ⊢
                refine ⟨hS.1, fun a b h1 h2 h3 h4 => ?_⟩
                rw [hS.2 a b h1 h2 h3 h4]
                by_cases c : k < a ∧ k < b ∧ (a < i ∨ (a = i ∧ b < j))
                · rw [if_pos c, if_pos (by omega)]
                · rw [if_neg c, if_neg (by omega)])
              refine ⟨L', g1, ?_⟩
              refine r_M_determinant_169 hT _ _ _ _ _ _ _ (Nat.le_refl _) (Nat.le_refl _) ?_
              refine bb_t (nI_le (Nat.le_refl _) (by omega)) ?_
              rw [nI_1]; exact g2
            | succ t iht =>
              intro j L2 hj hkj hS
              have hS' := hS
              rw [← hSt] at hS'
              obtain ⟨s1, s2⟩ := hS'
              have hi' : i < m := by omega
              have hj' : j < m := by omega
              have r1 := s2 i j (by omega) hi' (by omega) hj'
              have r2 := s2 k k (Nat.le_refl k) (by omega) (Nat.le_refl k) (by omega)
              have r3 := s2 i k (by omega) hi' (Nat.le_refl k) (by omega)
              have r4 := s2 k j (Nat.le_refl k) (by omega) (by omega) hj'
              rw [if_neg (by omega)] at r1 r2 r3 r4
              obtain ⟨L', g1, g2⟩ := iht (j + 1) (ab_upL L2 mx_laplace (10 * i + j) (lI (DD A (k + 1) i j))) (by omega) (by omega) (by
                rw [← hSt]
                refine ⟨fun a ha => by rw [upL_o ha]; exact s1 a ha, fun a b h1 h2 h3 h4 => ?_⟩
                rw [upL_i]
                by_cases c : a = i ∧ b = j
                · rw [c.1, c.2, updL_s, if_pos (by omega)]
                · rw [updL_n (by omega), s2 a b h1 h2 h3 h4]
                  by_cases c2 : k < a ∧ k < b ∧ (a < i ∨ (a = i ∧ b < j))
                  · rw [if_pos c2, if_pos (by omega)]
                  · rw [if_neg c2, if_neg (by omega)])
              refine ⟨L', g1, ?_⟩
              have hjl : ¬ m ≤ j := by omega
              have st := step i j hki hi' hkj hj'
              refine r_M_determinant_169 hT _ _ _ _ _ _ _ (Nat.le_refl _) (Nat.le_refl _) ?_
              simp (disch := first | omega | decide) only [hjl, r1, r2, r3, r4, st, lk0, nl_add1, nl_add2, nl_mul1, nl_mul2, nl_sub1, nl_lt1, nl_lt2, nl_le1, nl_le2, nl_eq1, nl_eq2, nl_m1, nl_m2, nl_inT, nI_add, nI_mul, nI_leI, nI_ltI, nI_eq, nI_clamp, nl_bit, oI_n, oI_s, oI_m1, true_and, and_true, eq_self, Bool.false_eq_true, not_false_eq_true, not_true_eq_false, false_implies, true_implies, implies_true, forall_const, Nat.not_lt_zero, ab_row_eq, ab_row_ne, ab_up_i, ab_up_o, pk_us, pk_un, ab_row_row]
              exact g2
          obtain ⟨L', g1, g2⟩ := inner (m - (k + 1)) (k + 1) L2 (by omega) (by omega) (by
            rw [← hSt] at hS ⊢
            refine ⟨hS.1, fun a b h1 h2 h3 h4 => ?_⟩
            rw [hS.2 a b h1 h2 h3 h4]
            by_cases c : k < a ∧ k < b ∧ (a < i ∨ (a = i ∧ b < 0))
            · rw [if_pos c, if_pos (by omega)]
            · rw [if_neg c, if_neg (by omega)])
          refine ⟨L', g1, ?_⟩
          have hil : ¬ m ≤ i := by omega
          refine r_M_determinant_157 hT _ _ _ _ _ _ (Nat.le_refl _) (Nat.le_refl _) ?_
          simp (disch := first | omega | decide) only [hil, nl_add1, nl_add2, nl_mul1, nl_mul2, nl_sub1, nl_lt1, nl_lt2, nl_le1, nl_le2, nl_eq1, nl_eq2, nl_m1, nl_m2, nl_inT, nI_add, nI_mul, nI_leI, nI_ltI, nI_eq, nI_clamp, nl_bit, oI_n, oI_s, oI_m1, true_and, and_true, eq_self, Bool.false_eq_true, not_false_eq_true, not_true_eq_false, false_implies, true_implies, implies_true, forall_const, Nat.not_lt_zero, ab_row_eq, ab_row_ne, ab_up_i, ab_up_o, pk_us, pk_un, ab_row_row]
          exact g2
      obtain ⟨L', g1, g2⟩ := outer (m - (k + 1)) (k + 1) L1 (by omega) (by omega) (by
        rw [← hSt]
        refine ⟨h1, fun i j a1 a2 a3 a4 => ?_⟩
        rw [if_neg (by omega)]; exact h2 i j a1 a2 a3 a4)
      refine ⟨L', g1, ?_⟩
      have z : ab_E w d mt_M_determinant 59 [.ref mx, .int (nI m), .long (lI (pv A k)), .null, .long 1, .null, .int (nI k), .int (nI k), .int 0, .null, .null] [] (I, L1, ab_RR, n, nc, ns) (.inl (some (.long (lI (pv A m)))), (I, L', ab_RR, n, nc, ns)) := by
        refine r_M_determinant_59 hT _ _ _ _ _ _ (Nat.le_refl _) (Nat.le_refl _) ?_
        refine ⟨fun _ => ⟨fun _ => ?_, fun h => absurd rfl h⟩, fun _ => ⟨fun _ => ⟨fun _ => ?_, fun h => absurd rfl h⟩, fun h => absurd rfl h⟩⟩
        · rw [nI_1]; exact g2
        · rw [nI_1]; exact g2
      have hkm' : ¬ k = m := by omega
      have y : ab_E w d mt_M_determinant 18 [.ref mx, .int (nI m), .long (lI (pv A k)), .null, .long 1, .null, .int (nI k), .int (nI k), .null, .null, .null] [] (I, L1, ab_RR, n, nc, ns) (.inl (some (.long (lI (pv A m)))), (I, L', ab_RR, n, nc, ns)) := by
        refine r_M_determinant_18 hT _ _ _ _ _ (Nat.le_refl _) (Nat.le_refl _) ?_
        simp (disch := first | omega | decide) only [hkm, rdk, cmpk, hkm', nl_add1, nl_add2, nl_mul1, nl_mul2, nl_sub1, nl_lt1, nl_lt2, nl_le1, nl_le2, nl_eq1, nl_eq2, nl_m1, nl_m2, nl_inT, nI_add, nI_mul, nI_leI, nI_ltI, nI_eq, nI_clamp, nl_bit, oI_n, oI_s, oI_m1, true_and, and_true, eq_self, Bool.false_eq_true, not_false_eq_true, not_true_eq_false, false_implies, true_implies, implies_true, forall_const, Nat.not_lt_zero, ab_row_eq, ab_row_ne, ab_up_i, ab_up_o, pk_us, pk_un, ab_row_row]
        exact z
      refine r_M_determinant_8 hT _ _ _ _ (Nat.le_refl _) (Nat.le_refl _) ?_
      simp (disch := first | omega | decide) only [hkm, nl_add1, nl_add2, nl_mul1, nl_mul2, nl_sub1, nl_lt1, nl_lt2, nl_le1, nl_le2, nl_eq1, nl_eq2, nl_m1, nl_m2, nl_inT, nI_add, nI_mul, nI_leI, nI_ltI, nI_eq, nI_clamp, nl_bit, oI_n, oI_s, oI_m1, true_and, and_true, eq_self, Bool.false_eq_true, not_false_eq_true, not_true_eq_false, false_implies, true_implies, implies_true, forall_const, Nat.not_lt_zero, ab_row_eq, ab_row_ne, ab_up_i, ab_up_o, pk_us, pk_un, ab_row_row]
      exact y
  obtain ⟨L', g1, g2⟩ := main m 0 L (by omega) (fun _ _ => rfl) (fun i j h1 h2 h3 h4 => by rw [DD_0]; exact hL i j h1 h2 h3 h4)
  rw [pv_0, lI_1] at g2
  refine ⟨L', g1, ?_⟩
  refine ab_C_of (by decide) rfl (Nat.le_of_ble_eq_true rfl) hT ?_
  refine r_M_determinant_0 hT _ (Nat.le_refl _) (Nat.le_refl _) ?_
  exact g2
theorem rsL_S {pb pa : Nat → Nat} {S : Nat} (h : ∀ x, S ≤ x → pa x = x) : ∀ m, rsL pb pa (S + m) = rsL pb pa S := by
  intro m
  induction m with
  | zero => rfl
  | succ m ih => rw [← Nat.add_assoc, rsL_f (fun g => g.2 (h _ (by omega)))]; exact ih
theorem rsL_pos {pb pa : Nat → Nat} {s : Nat} (h : pb s = s) (g : pa s ≠ s) : ∀ m, (rsL pb pa (s + 1 + m)).getD (rsL pb pa s).length 0 = s ∧ (rsL pb pa s).length < (rsL pb pa (s + 1 + m)).length := by
  intro m
  induction m with
  | zero => rw [Nat.add_zero, rsL_t h g, getD_snoc_r, List.length_append]; exact ⟨rfl, by simp⟩
  | succ m ih =>
    by_cases c : pb (s + 1 + m) = s + 1 + m ∧ pa (s + 1 + m) ≠ s + 1 + m
    · rw [← Nat.add_assoc, rsL_t c.1 c.2, getD_snoc_l ih.2, List.length_append]; exact ⟨ih.1, by omega⟩
    · rw [← Nat.add_assoc, rsL_f c]; exact ih
theorem mfr_lv {J : Nat → Nat → Int32} {c : Nat} (hc : mscr c) (hx : c ≠ mx) (h : ∀ a, a ≠ c → J a = I a) : mfr J I := ⟨fun a ha => h a (fun e => ha (by rw [e]; exact hc)), fun k _ => by rw [h mx (fun e => hx e.symm)]⟩
theorem z_copyLevel (hT : w.1.stackTraces = false) : ∃ J, (∀ a, a ≠ mx_level → J a = I a) ∧ (∀ x, x < 10 → J mx_level x = I mx_piece x) ∧ ab_U w d mt_M_copyTo [.ref mx_level, .ref mx_piece] I L n nc ns J := by
  have loop : ∀ m i (J : Nat → Nat → Int32), i + m = 10 → (∀ a, a ≠ mx_level → J a = I a) → (∀ x, x < i → J mx_level x = I mx_piece x) → ∃ J', (∀ a, a ≠ mx_level → J' a = I a) ∧ (∀ x, x < 10 → J' mx_level x = I mx_piece x) ∧ ab_E w d mt_M_copyTo 2 [.ref mx_level, .ref mx_piece, .int (nI i)] [] (J, L, ab_RR, n, nc, ns) (.inl none, (J', L, ab_RR, n, nc, ns)) := by
    intro m
    induction m with
    | zero =>
      intro i J hi h1 h2
      refine ⟨J, h1, fun x hx => h2 x (by omega), ?_⟩
      have h10 : 10 ≤ i := by omega
      refine r_M_copyTo_1_2 hT _ (Nat.le_refl _) (Nat.le_refl _) ?_
      simp (disch := first | omega | decide) only [h10, nl_add1, nl_add2, nl_mul1, nl_mul2, nl_sub1, nl_lt1, nl_lt2, nl_le1, nl_le2, nl_eq1, nl_eq2, nl_m1, nl_m2, nl_inT, nI_add, nI_mul, nI_leI, nI_ltI, nI_eq, nI_clamp, nl_bit, oI_n, oI_s, oI_m1, true_and, and_true, eq_self, Bool.false_eq_true, not_false_eq_true, not_true_eq_false, false_implies, true_implies, implies_true, forall_const, Nat.not_lt_zero, ab_row_eq, ab_row_ne, ab_up_i, ab_up_o, pk_us, pk_un, ab_row_row]
    | succ m ih =>
      intro i J hi h1 h2
      have hp : J mx_piece = I mx_piece := h1 _ (by decide)
      obtain ⟨J', g1, g2, g3⟩ := ih (i + 1) (ab_up J mx_level i (J mx_piece i)) (by omega) (fun a ha => by rw [ab_up_o ha]; exact h1 a ha) (fun x hx => by
        rw [ab_up_i]
        by_cases e : x = i
        · rw [e, pk_us, hp]
        · rw [pk_un e]; exact h2 x (by omega))
      refine ⟨J', g1, g2, ?_⟩
      have h10 : ¬ 10 ≤ i := by omega
      refine r_M_copyTo_1_2 hT _ (Nat.le_refl _) (Nat.le_refl _) ?_
      simp (disch := first | omega | decide) only [h10, nl_add1, nl_add2, nl_mul1, nl_mul2, nl_sub1, nl_lt1, nl_lt2, nl_le1, nl_le2, nl_eq1, nl_eq2, nl_m1, nl_m2, nl_inT, nI_add, nI_mul, nI_leI, nI_ltI, nI_eq, nI_clamp, nl_bit, oI_n, oI_s, oI_m1, true_and, and_true, eq_self, Bool.false_eq_true, not_false_eq_true, not_true_eq_false, false_implies, true_implies, implies_true, forall_const, Nat.not_lt_zero, ab_row_eq, ab_row_ne, ab_up_i, ab_up_o, pk_us, pk_un, ab_row_row]
      exact g3
  obtain ⟨J', g1, g2, g3⟩ := loop 10 0 I (by omega) (fun _ _ => rfl) (fun x hx => absurd hx (Nat.not_lt_zero x))
  refine ⟨J', g1, g2, ?_⟩
  refine ab_C_of (by decide) rfl (Nat.le_of_ble_eq_true rfl) hT ?_
  refine r_M_copyTo_1_0 hT (Nat.le_refl _) (Nat.le_refl _) ?_
  exact g3
theorem z_waysAt (hT : w.1.stackTraces = false) (hm : mC I S N sd e1 e2 pr fm l) {v : Nat} (hv : v ≤ 999) : ∃ J L', mfr J I ∧ lfr L' L mx_laplace ∧ ab_C w (d + 3) mt_M_waysAt [.ref mx, .int (nI v)] (I, L, ab_RR, n, nc, ns) (.inl (some (.long (lI (Wv e1 e2 pr N sd v)))), (J, L', ab_RR, n, nc, ns)) := by
  have hm0 := hm
  obtain ⟨⟨p1, p2, p3, p4, p5, p6⟩, m2, m3, m4, m5⟩ := hm
  have hw : ∀ k, k < N → e1 k < S ∧ e2 k < S := fun k hk => ⟨(p6 k hk).2.2.2.1, (p6 k hk).2.2.2.2.1⟩
  obtain ⟨wg, f, wf, wsum⟩ := W_gnd (pr := pr) (sd := sd) hw p4 p3 v
  have kpb := pcf_kp (S := S) hw (lsv sd pr v)
  have kpa := pcf_kp (S := S) hw (fun k => lsv sd pr v k || lkv sd pr v k)
  have klist : ∀ (am : Nat → Bool), (kr e1 e2 (l.filter am)).2 = pcf e1 e2 N am := fun am => by
    have h := kr_kp (e1 := e1) (e2 := e2) (S := S) (l.filter am) (fun k hk => hw k ((p5.2 k).mp (List.mem_filter.mp hk).1))
    exact kp_uq h (pcf_kp hw am) (fun k => by rw [List.mem_filter, p5.2])
  generalize hpb : pcf e1 e2 N (lsv sd pr v) = pb at *
  generalize hpa : pcf e1 e2 N (fun k => lsv sd pr v k || lkv sd pr v k) = pa at *
  have hrs : rsV e1 e2 pr N sd v = rsL pb pa S := by
    unfold rsV
    rw [hpb, hpa]
    have := rsL_S (pb := pb) (pa := pa) (S := S) (fun x hx => kpa.2.2.2 x hx) (10 - S)
    rwa [show S + (10 - S) = 10 by omega] at this
  have haV : aV e1 e2 pr N sd v = fun i j => lapS pb e1 e2 N (lkv sd pr v) ((rsL pb pa S).getD i 0) ((rsL pb pa S).getD j 0) := by
    funext i j
    unfold aV
    rw [hrs, hpb]
  have hWv : Wv e1 e2 pr N sd v = pv (aV e1 e2 pr N sd v) (rsL pb pa S).length := by unfold Wv; rw [hrs]
  rw [hrs] at wg wf wsum
  have hlen : (rsL pb pa S).length ≤ 10 := Nat.le_trans (rsL_len S) p3
  have lI0 : lI 0 = 0 := by decide
  have posc : ∀ a, pb a = a → pa a ≠ a → a < S → (rsL pb pa S).getD (rsL pb pa a).length 0 = a ∧ (rsL pb pa a).length < (rsL pb pa S).length := fun a h1 h2 h3 => by
    have := rsL_pos h1 h2 (S - (a + 1))
    rwa [show a + 1 + (S - (a + 1)) = S by omega] at this
  have eqc : ∀ i a, i < (rsL pb pa S).length → pb a = a → pa a ≠ a → a < S → ((rsL pb pa S).getD i 0 = a ↔ i = (rsL pb pa a).length) := fun i a hi h1 h2 h3 => by
    obtain ⟨q1, q2⟩ := posc a h1 h2 h3
    constructor
    · intro h; exact getD_inj rsL_nd hi q2 (by rw [h, q1])
    · intro h; rw [h]; exact q1
  have nec : ∀ i a, i < (rsL pb pa S).length → ¬ (pa a ≠ a) → (rsL pb pa S).getD i 0 ≠ a := fun i a hi h1 h => by
    have := rsL_mem.mp (getD_mem (Q := rsL pb pa S) hi)
    rw [h] at this
    exact h1 this.2.2
  -- the last part: the cables are laid, the determinant
  have fifth : ∀ q k (J : Nat → Nat → Int32) (L1 : Nat → Nat → Int64) (x2 x3 x4 x5 : Int32), k + q = N → mfr J I → (∀ j, j < 32 → bt x3 j = (decide (j < N) && lkv sd pr v j)) → (∀ x, x < S → J mx_piece x = nI (pb x)) → (∀ x, x < S → J mx_column x = if pb x = x ∧ pa x ≠ x then nI (rsL pb pa x).length else -1) → lfr L1 L mx_laplace → mtL L1 mx_laplace (fun i j => 10 * i + j) (fun i j => lapS pb e1 e2 N (fun c => lkv sd pr v c && decide (c < k)) ((rsL pb pa S).getD i 0) ((rsL pb pa S).getD j 0)) 0 (rsL pb pa S).length →
      ∃ L', lfr L' L mx_laplace ∧ ab_E w ((d + 2) + 1) mt_M_waysAt 218 [.ref mx, .int (nI v), .int x2, .int x3, .int x4, .int x5, .int (nI (rsL pb pa S).length), .int (nI k), .null, .null] [] (J, L1, ab_RR, n, nc, ns) (.inl (some (.long (lI (Wv e1 e2 pr N sd v)))), (J, L', ab_RR, n, nc, ns)) := by
    intro q
    induction q with
    | zero =>
      intro k J L1 x2 x3 x4 x5 hk hJ hx hp hcol h1 h2
      have e : k = N := by omega
      subst e
      obtain ⟨L', g1, g2⟩ := z_determinant (w := w) (d := d + 2) (n := n) (nc := nc) (ns := ns) (I := J) (L := L1) hT hlen wg (f := f) wf wsum (fun i j a1 a2 a3 a4 => by
        rw [h2 i j a1 a2 a3 a4, haV]
        refine congrArg lI (lapS_congr (fun c hc => ?_) _ _)
        rw [decide_eq_true hc, Bool.and_true])
      refine ⟨L', fun a ha => (g1 a ha).trans (h1 a ha), ?_⟩
      rw [hWv]
      refine r_M_waysAt_218 hT _ _ _ _ _ _ _ (Nat.le_refl _) (Nat.le_refl _) ?_
      refine bb_t (by rw [mfr_now hJ, p2]; exact nI_le (Nat.le_refl _) (by omega)) ⟨_, L', g2, rfl⟩
    | succ q ih =>
      intro k J L1 x2 x3 x4 x5 hk hJ hx hp hcol h1 h2
      have hkN : ¬ N ≤ k := by omega
      have hnow := mfr_now hJ
      obtain ⟨q1, q2, q3, q4, q5, q6⟩ := p6 k (by omega)
      rw [← hnow] at q1 q2 q3
      have r0 : J mx_now 0 = nI N := by rw [hnow]; exact p2
      have hbt : bt x3 k = lkv sd pr v k := by rw [hx k (by omega), decide_eq_true (show k < N by omega), Bool.true_and]
      have same : ∀ c, c ≠ k → (lkv sd pr v c && decide (c < k + 1)) = (lkv sd pr v c && decide (c < k)) := fun c hc => by
        by_cases h : c < k
        · rw [decide_eq_true h, decide_eq_true (by omega)]
        · rw [decide_eq_false h, decide_eq_false (by omega)]
      have next : ∀ (L2 : Nat → Nat → Int64), lfr L2 L mx_laplace → mtL L2 mx_laplace (fun i j => 10 * i + j) (fun i j => lapS pb e1 e2 N (fun c => lkv sd pr v c && decide (c < k + 1)) ((rsL pb pa S).getD i 0) ((rsL pb pa S).getD j 0)) 0 (rsL pb pa S).length → ∃ L', lfr L' L mx_laplace ∧ ab_E w ((d + 2) + 1) mt_M_waysAt 362 [.ref mx, .int (nI v), .int x2, .int x3, .int x4, .int x5, .int (nI (rsL pb pa S).length), .int (nI k), .null, .null] [] (J, L2, ab_RR, n, nc, ns) (.inl (some (.long (lI (Wv e1 e2 pr N sd v)))), (J, L', ab_RR, n, nc, ns)) := fun L2 f1 f2 => by
        obtain ⟨L', g1, g2⟩ := ih (k + 1) J L2 x2 x3 x4 x5 (by omega) hJ hx hp hcol f1 f2
        refine ⟨L', g1, ?_⟩
        refine r_M_waysAt_362 hT _ _ _ _ _ _ _ (Nat.le_refl _) (Nat.le_refl _) ?_
        rw [nI_1]; exact g2
      by_cases hl : lkv sd pr v k = true
      · have lapk : ∀ s t, lapS pb e1 e2 N (fun c => lkv sd pr v c && decide (c < k + 1)) s t = lapS pb e1 e2 N (fun c => lkv sd pr v c && decide (c < k)) s t + ctr (pb (e1 k)) (pb (e2 k)) s t := fun s t => by
          unfold lapS
          rw [smI_add1 (f := fun c => if (lkv sd pr v c && decide (c < k)) = true then ctr (pb (e1 c)) (pb (e2 c)) s t else 0) (g := fun c => if (lkv sd pr v c && decide (c < k + 1)) = true then ctr (pb (e1 c)) (pb (e2 c)) s t else 0) (c := k) (by omega) (fun c hc => by rw [same c hc]) (by
            show (if (lkv sd pr v k && decide (k < k)) = true then _ else 0) = (0 : Int)
            rw [decide_eq_false (by omega), Bool.and_false]; rfl)]
          show _ + (if (lkv sd pr v k && decide (k < k + 1)) = true then _ else 0) = _
          rw [hl, decide_eq_true (by omega)]; rfl
        have b1 := hp _ q4
        have b2 := hp _ q5
        have l1 : pb (e1 k) < S := Nat.lt_of_le_of_lt (kpb.2.1 _) q4
        have l2 : pb (e2 k) < S := Nat.lt_of_le_of_lt (kpb.2.1 _) q5
        have i1 : pb (pb (e1 k)) = pb (e1 k) := kpb.2.2.1 _
        have i2 : pb (pb (e2 k)) = pb (e2 k) := kpb.2.2.1 _
        by_cases e : pb (e1 k) = pb (e2 k)
        · obtain ⟨L', g1, g2⟩ := next L1 h1 (fun i j a1 a2 a3 a4 => by
            rw [h2 i j a1 a2 a3 a4]
            show lI (lapS pb e1 e2 N (fun c => lkv sd pr v c && decide (c < k)) ((rsL pb pa S).getD i 0) ((rsL pb pa S).getD j 0)) = lI (lapS pb e1 e2 N (fun c => lkv sd pr v c && decide (c < k + 1)) ((rsL pb pa S).getD i 0) ((rsL pb pa S).getD j 0))
            rw [lapk]
            unfold ctr
            rw [if_pos e, Int.add_zero])
          refine ⟨L', g1, ?_⟩
          refine r_M_waysAt_218 hT _ _ _ _ _ _ _ (Nat.le_refl _) (Nat.le_refl _) ?_
          simp (disch := first | omega | decide) only [r0, hkN, hbt, hl, q1, q2, b1, b2, e, nl_add1, nl_add2, nl_mul1, nl_mul2, nl_sub1, nl_lt1, nl_lt2, nl_le1, nl_le2, nl_eq1, nl_eq2, nl_m1, nl_m2, nl_inT, nI_add, nI_mul, nI_leI, nI_ltI, nI_eq, nI_clamp, nl_bit, oI_n, oI_s, oI_m1, true_and, and_true, eq_self, Bool.false_eq_true, not_false_eq_true, not_true_eq_false, false_implies, true_implies, implies_true, forall_const, Nat.not_lt_zero, ab_row_eq, ab_row_ne, ab_up_i, ab_up_o, pk_us, pk_un, ab_row_row]
          exact g2
        · have k1 := hcol _ l1
          have k2 := hcol _ l2
          generalize hu : pb (e1 k) = u at *
          generalize hvv : pb (e2 k) = y at *
          have hyu : ¬ y = u := fun h => e h.symm
          have up : ∀ (L2 : Nat → Nat → Int64), lfr L2 L mx_laplace → (∀ i j, i < (rsL pb pa S).length → j < (rsL pb pa S).length → L2 mx_laplace (10 * i + j) = lI (lapS pb e1 e2 N (fun c => lkv sd pr v c && decide (c < k)) ((rsL pb pa S).getD i 0) ((rsL pb pa S).getD j 0) + ctr u y ((rsL pb pa S).getD i 0) ((rsL pb pa S).getD j 0))) → ∃ L', lfr L' L mx_laplace ∧ ab_E w ((d + 2) + 1) mt_M_waysAt 362 [.ref mx, .int (nI v), .int x2, .int x3, .int x4, .int x5, .int (nI (rsL pb pa S).length), .int (nI k), .null, .null] [] (J, L2, ab_RR, n, nc, ns) (.inl (some (.long (lI (Wv e1 e2 pr N sd v)))), (J, L', ab_RR, n, nc, ns)) := fun L2 f1 f2 => next L2 f1 (fun i j _ a2 _ a4 => by
            show L2 mx_laplace (10 * i + j) = lI (lapS pb e1 e2 N (fun c => lkv sd pr v c && decide (c < k + 1)) ((rsL pb pa S).getD i 0) ((rsL pb pa S).getD j 0))
            rw [lapk]; exact f2 i j a2 a4)
          have val : ∀ i j, i < (rsL pb pa S).length → j < (rsL pb pa S).length → L1 mx_laplace (10 * i + j) = lI (lapS pb e1 e2 N (fun c => lkv sd pr v c && decide (c < k)) ((rsL pb pa S).getD i 0) ((rsL pb pa S).getD j 0)) := fun i j a2 a4 => h2 i j (Nat.zero_le _) a2 (Nat.zero_le _) a4
          generalize hF : (fun i j => lapS pb e1 e2 N (fun c => lkv sd pr v c && decide (c < k)) ((rsL pb pa S).getD i 0) ((rsL pb pa S).getD j 0)) = F at *
          have Fe : ∀ i j, lapS pb e1 e2 N (fun c => lkv sd pr v c && decide (c < k)) ((rsL pb pa S).getD i 0) ((rsL pb pa S).getD j 0) = F i j := fun i j => by rw [← hF]
          simp only [Fe] at up val
          by_cases cu : pa u ≠ u
          · rw [if_pos ⟨i1, cu⟩] at k1
            obtain ⟨pu1, pu2⟩ := posc u i1 cu l1
            have eu : ∀ i, i < (rsL pb pa S).length → ((rsL pb pa S).getD i 0 = u ↔ i = (rsL pb pa u).length) := fun i hi => eqc i u hi i1 cu l1
            generalize (rsL pb pa u).length = a at *
            by_cases cy : pa y ≠ y
            · rw [if_pos ⟨i2, cy⟩] at k2
              obtain ⟨py1, py2⟩ := posc y i2 cy l2
              have ey : ∀ i, i < (rsL pb pa S).length → ((rsL pb pa S).getD i 0 = y ↔ i = (rsL pb pa y).length) := fun i hi => eqc i y hi i2 cy l2
              generalize (rsL pb pa y).length = b at *
              have hab : a ≠ b := fun h => e (by rw [← pu1, ← py1, h])
              have n1 : ¬ 10 * b + b = 10 * a + a := by omega
              have n2 : ¬ 10 * a + b = 10 * b + b := by omega
              have n3 : ¬ 10 * a + b = 10 * a + a := by omega
              have n4 : ¬ 10 * b + a = 10 * a + b := by omega
              have n5 : ¬ 10 * b + a = 10 * b + b := by omega
              have n6 : ¬ 10 * b + a = 10 * a + a := by omega
              have v1 := val a a pu2 pu2
              have v2 := val b b py2 py2
              have v3 := val a b pu2 py2
              have v4 := val b a py2 pu2
              obtain ⟨L', g1, g2⟩ := up (ab_upL (ab_upL (ab_upL (ab_upL L1 mx_laplace (10 * a + a) (lI (F a a + 1))) mx_laplace (10 * b + b) (lI (F b b + 1))) mx_laplace (10 * a + b) (lI (F a b - 1))) mx_laplace (10 * b + a) (lI (F b a - 1))) (fun c hc => by rw [upL_o hc, upL_o hc, upL_o hc, upL_o hc]; exact h1 c hc) (fun i j hi hj => by
                rw [upL_i, upL_i, upL_i, upL_i]
                unfold ctr
                rw [if_neg e]
                have ei := eu i hi
                have ej := eu j hj
                have ei2 := ey i hi
                have ej2 := ey j hj
                have eij : (rsL pb pa S).getD i 0 = (rsL pb pa S).getD j 0 ↔ i = j := ⟨getD_inj rsL_nd hi hj, fun h => by rw [h]⟩
                simp only [eij, ei, ej, ei2, ej2]
                by_cases q4 : i = b ∧ j = a
                · rw [q4.1, q4.2, updL_s, if_neg (fun h => hab h.symm), if_neg (fun h : b = a ∧ a = b => hab h.2), if_pos ⟨rfl, rfl⟩]; rfl
                · rw [updL_n (by omega)]
                  by_cases q3 : i = a ∧ j = b
                  · rw [q3.1, q3.2, updL_s, if_neg hab, if_pos ⟨rfl, rfl⟩, if_neg (fun h : a = b ∧ b = a => hab h.1)]; rfl
                  · rw [updL_n (by omega)]
                    by_cases q2 : i = b ∧ j = b
                    · rw [q2.1, q2.2, updL_s, if_pos rfl, if_neg (fun h => hab h.symm), if_pos rfl]; rfl
                    · rw [updL_n (by omega)]
                      by_cases q1 : i = a ∧ j = a
                      · rw [q1.1, q1.2, updL_s, if_pos rfl, if_pos rfl, if_neg hab]; rfl
                      · rw [updL_n (by omega), val i j hi hj]
                        by_cases st : i = j
                        · rw [if_pos st, if_neg (fun h => q1 ⟨h, st.symm.trans h⟩), if_neg (fun h => q2 ⟨h, st.symm.trans h⟩), Int.add_zero, Int.add_zero]
                        · rw [if_neg st, if_neg q3, if_neg q4, show -((0 : Int) + 0) = 0 from rfl, Int.add_zero])
              refine ⟨L', g1, ?_⟩
              refine r_M_waysAt_218 hT _ _ _ _ _ _ _ (Nat.le_refl _) (Nat.le_refl _) ?_
              simp (disch := first | omega | decide) only [r0, hkN, hbt, hl, q1, q2, b1, b2, e, k1, k2, v1, v2, v3, v4, upL_i, updL_s, updL_n, n1, n2, n3, n4, n5, n6, lI_p, lI_m1, nl_add1, nl_add2, nl_mul1, nl_mul2, nI_add, nI_clamp, nl_inT, nI_eq, nl_m1, nI_leI, nl_bit, true_and, and_true, not_false_eq_true, not_true_eq_false, true_implies, false_implies]
              exact g2
            · rw [if_neg (fun h => cy h.2)] at k2
              have v1 := val a a pu2 pu2
              have ny : ∀ i, i < (rsL pb pa S).length → ¬ (rsL pb pa S).getD i 0 = y := fun i hi => nec i y hi cy
              obtain ⟨L', g1, g2⟩ := up (ab_upL L1 mx_laplace (10 * a + a) (lI (F a a + 1))) (fun c hc => by rw [upL_o hc]; exact h1 c hc) (fun i j hi hj => by
                rw [upL_i]
                unfold ctr
                rw [if_neg e]
                have eij : (rsL pb pa S).getD i 0 = (rsL pb pa S).getD j 0 ↔ i = j := ⟨getD_inj rsL_nd hi hj, fun h => by rw [h]⟩
                simp only [eij, eu i hi, eu j hj, ny i hi, ny j hj, and_false, false_and, if_false, Int.add_zero]
                by_cases q1 : i = a ∧ j = a
                · rw [q1.1, q1.2, updL_s, if_pos rfl, if_pos rfl]
                · rw [updL_n (by omega), val i j hi hj]
                  by_cases st : i = j
                  · rw [if_pos st, if_neg (fun h => q1 ⟨h, st.symm.trans h⟩), Int.add_zero]
                  · rw [if_neg st, Int.neg_zero, Int.add_zero])
              refine ⟨L', g1, ?_⟩
              refine r_M_waysAt_218 hT _ _ _ _ _ _ _ (Nat.le_refl _) (Nat.le_refl _) ?_
              simp (disch := first | omega | decide) only [r0, hkN, hbt, hl, q1, q2, b1, b2, e, k1, k2, v1, upL_i, updL_s, updL_n, lI_p, lI_m1, nl_add1, nl_add2, nl_mul1, nl_mul2, nI_add, nI_clamp, nl_inT, nI_eq, nl_m1, nI_leI, nl_bit, true_and, and_true, not_false_eq_true, not_true_eq_false, true_implies, false_implies]
              exact g2
          · rw [if_neg (fun h => cu h.2)] at k1
            have nu : ∀ i, i < (rsL pb pa S).length → ¬ (rsL pb pa S).getD i 0 = u := fun i hi => nec i u hi cu
            by_cases cy : pa y ≠ y
            · rw [if_pos ⟨i2, cy⟩] at k2
              obtain ⟨py1, py2⟩ := posc y i2 cy l2
              have ey : ∀ i, i < (rsL pb pa S).length → ((rsL pb pa S).getD i 0 = y ↔ i = (rsL pb pa y).length) := fun i hi => eqc i y hi i2 cy l2
              generalize (rsL pb pa y).length = b at *
              have v2 := val b b py2 py2
              obtain ⟨L', g1, g2⟩ := up (ab_upL L1 mx_laplace (10 * b + b) (lI (F b b + 1))) (fun c hc => by rw [upL_o hc]; exact h1 c hc) (fun i j hi hj => by
                rw [upL_i]
                unfold ctr
                rw [if_neg e]
                have eij : (rsL pb pa S).getD i 0 = (rsL pb pa S).getD j 0 ↔ i = j := ⟨getD_inj rsL_nd hi hj, fun h => by rw [h]⟩
                simp only [eij, ey i hi, ey j hj, nu i hi, nu j hj, and_false, false_and, if_false, Int.add_zero, Int.zero_add]
                by_cases q1 : i = b ∧ j = b
                · rw [q1.1, q1.2, updL_s, if_pos rfl, if_pos rfl]
                · rw [updL_n (by omega), val i j hi hj]
                  by_cases st : i = j
                  · rw [if_pos st, if_neg (fun h => q1 ⟨h, st.symm.trans h⟩), Int.add_zero]
                  · rw [if_neg st, Int.neg_zero, Int.add_zero])
              refine ⟨L', g1, ?_⟩
              refine r_M_waysAt_218 hT _ _ _ _ _ _ _ (Nat.le_refl _) (Nat.le_refl _) ?_
              simp (disch := first | omega | decide) only [r0, hkN, hbt, hl, q1, q2, b1, b2, e, k1, k2, v2, upL_i, updL_s, updL_n, lI_p, lI_m1, nl_add1, nl_add2, nl_mul1, nl_mul2, nI_add, nI_clamp, nl_inT, nI_eq, nl_m1, nI_leI, nl_bit, true_and, and_true, not_false_eq_true, not_true_eq_false, true_implies, false_implies]
              exact g2
            · rw [if_neg (fun h => cy h.2)] at k2
              have ny : ∀ i, i < (rsL pb pa S).length → ¬ (rsL pb pa S).getD i 0 = y := fun i hi => nec i y hi cy
              obtain ⟨L', g1, g2⟩ := up L1 h1 (fun i j hi hj => by
                rw [val i j hi hj]
                unfold ctr
                rw [if_neg e]
                simp only [ny i hi, ny j hj, nu i hi, nu j hj, and_false, false_and, if_false, Int.add_zero, Int.neg_zero, ite_self])
              refine ⟨L', g1, ?_⟩
              refine r_M_waysAt_218 hT _ _ _ _ _ _ _ (Nat.le_refl _) (Nat.le_refl _) ?_
              simp (disch := first | omega | decide) only [r0, hkN, hbt, hl, q1, q2, b1, b2, e, k1, k2, nl_add1, nl_add2, nl_mul1, nl_mul2, nI_add, nI_clamp, nl_inT, nI_eq, nl_m1, nI_leI, nl_bit, true_and, and_true, not_false_eq_true, not_true_eq_false, true_implies, false_implies]
              exact g2
      · obtain ⟨L', g1, g2⟩ := next L1 h1 (fun i j a1 a2 a3 a4 => by
          rw [h2 i j a1 a2 a3 a4]
          refine congrArg lI (lapS_congr (fun c hc => ?_) _ _)
          by_cases ec : c = k
          · rw [ec]
            have : lkv sd pr v k = false := by simpa using hl
            rw [this]; rfl
          · exact (same c ec).symm)
        refine ⟨L', g1, ?_⟩
        refine r_M_waysAt_218 hT _ _ _ _ _ _ _ (Nat.le_refl _) (Nat.le_refl _) ?_
        simp (disch := first | omega | decide) only [r0, hkN, hbt, hl, nl_add1, nl_add2, nl_mul1, nl_mul2, nl_sub1, nl_lt1, nl_lt2, nl_le1, nl_le2, nl_eq1, nl_eq2, nl_m1, nl_m2, nl_inT, nI_add, nI_mul, nI_leI, nI_ltI, nI_eq, nI_clamp, nl_bit, oI_n, oI_s, oI_m1, true_and, and_true, eq_self, Bool.false_eq_true, not_false_eq_true, not_true_eq_false, false_implies, true_implies, implies_true, forall_const, Nat.not_lt_zero, ab_row_eq, ab_row_ne, ab_up_i, ab_up_o, pk_us, pk_un, ab_row_row]
        exact g2
  have fourth : ∀ q i (J : Nat → Nat → Int32) (L1 : Nat → Nat → Int64) (x2 x3 x4 x5 : Int32), i + q = 100 → mfr J I → (∀ j, j < 32 → bt x3 j = (decide (j < N) && lkv sd pr v j)) → (∀ x, x < S → J mx_piece x = nI (pb x)) → (∀ x, x < S → J mx_column x = if pb x = x ∧ pa x ≠ x then nI (rsL pb pa x).length else -1) → lfr L1 L mx_laplace → (∀ k, k < i → L1 mx_laplace k = 0) →
      ∃ L', lfr L' L mx_laplace ∧ ab_E w ((d + 2) + 1) mt_M_waysAt 191 [.ref mx, .int (nI v), .int x2, .int x3, .int x4, .int x5, .int (nI (rsL pb pa S).length), .int (nI i), .null, .null] [] (J, L1, ab_RR, n, nc, ns) (.inl (some (.long (lI (Wv e1 e2 pr N sd v)))), (J, L', ab_RR, n, nc, ns)) := by
    intro q
    induction q with
    | zero =>
      intro i J L1 x2 x3 x4 x5 hi hJ hx hp hcol h1 h2
      obtain ⟨L', g1, g2⟩ := fifth N 0 J L1 x2 x3 x4 x5 (by omega) hJ hx hp hcol h1 (fun a b _ a2 _ a4 => by
        show L1 mx_laplace (10 * a + b) = _
        rw [h2 _ (by omega)]
        show 0 = lI (lapS pb e1 e2 N (fun c => lkv sd pr v c && decide (c < 0)) ((rsL pb pa S).getD a 0) ((rsL pb pa S).getD b 0))
        unfold lapS
        rw [smI_cong (g := fun _ => 0) (fun k _ => by rw [if_neg]; simp), smI_zero, lI0])
      refine ⟨L', g1, ?_⟩
      have hi1 : 100 ≤ i := by omega
      refine r_M_waysAt_191 hT _ _ _ _ _ _ _ (Nat.le_refl _) (Nat.le_refl _) ?_
      simp (disch := first | omega | decide) only [hi1, nl_add1, nl_add2, nl_mul1, nl_mul2, nl_sub1, nl_lt1, nl_lt2, nl_le1, nl_le2, nl_eq1, nl_eq2, nl_m1, nl_m2, nl_inT, nI_add, nI_mul, nI_leI, nI_ltI, nI_eq, nI_clamp, nl_bit, oI_n, oI_s, oI_m1, true_and, and_true, eq_self, Bool.false_eq_true, not_false_eq_true, not_true_eq_false, false_implies, true_implies, implies_true, forall_const, Nat.not_lt_zero, ab_row_eq, ab_row_ne, ab_up_i, ab_up_o, pk_us, pk_un, ab_row_row]
      exact g2
    | succ q ih =>
      intro i J L1 x2 x3 x4 x5 hi hJ hx hp hcol h1 h2
      obtain ⟨L', g1, g2⟩ := ih (i + 1) J (ab_upL L1 mx_laplace i 0) x2 x3 x4 x5 (by omega) hJ hx hp hcol (fun a ha => by rw [upL_o ha]; exact h1 a ha) (fun k hk => by
        rw [upL_i]
        by_cases e : k = i
        · rw [e, updL_s]
        · rw [updL_n e]; exact h2 k (by omega))
      refine ⟨L', g1, ?_⟩
      have hi1 : ¬ 100 ≤ i := by omega
      refine r_M_waysAt_191 hT _ _ _ _ _ _ _ (Nat.le_refl _) (Nat.le_refl _) ?_
      simp (disch := first | omega | decide) only [hi1, nl_add1, nl_add2, nl_mul1, nl_mul2, nl_sub1, nl_lt1, nl_lt2, nl_le1, nl_le2, nl_eq1, nl_eq2, nl_m1, nl_m2, nl_inT, nI_add, nI_mul, nI_leI, nI_ltI, nI_eq, nI_clamp, nl_bit, oI_n, oI_s, oI_m1, true_and, and_true, eq_self, Bool.false_eq_true, not_false_eq_true, not_true_eq_false, false_implies, true_implies, implies_true, forall_const, Nat.not_lt_zero, ab_row_eq, ab_row_ne, ab_up_i, ab_up_o, pk_us, pk_un, ab_row_row]
      exact g2
  have third : ∀ q s (J : Nat → Nat → Int32) (x2 x3 x4 x5 : Int32), s + q = S → mfr J I → (∀ j, j < 32 → bt x3 j = (decide (j < N) && lkv sd pr v j)) → (∀ x, x < S → J mx_piece x = nI (pb x)) → (∀ x, x < S → J mx_level x = nI (pa x)) → (∀ x, x < s → J mx_column x = if pb x = x ∧ pa x ≠ x then nI (rsL pb pa x).length else -1) →
      ∃ J' L', mfr J' I ∧ lfr L' L mx_laplace ∧ ab_E w ((d + 2) + 1) mt_M_waysAt 115 [.ref mx, .int (nI v), .int x2, .int x3, .int x4, .int x5, .int (nI (rsL pb pa s).length), .int (nI s), .null, .null] [] (J, L, ab_RR, n, nc, ns) (.inl (some (.long (lI (Wv e1 e2 pr N sd v)))), (J', L', ab_RR, n, nc, ns)) := by
    intro q
    induction q with
    | zero =>
      intro s J x2 x3 x4 x5 hs hJ hx hp hlv hcol
      have e : s = S := by omega
      subst e
      obtain ⟨L', g1, g2⟩ := fourth 100 0 J L x2 x3 x4 x5 (by omega) hJ hx hp hcol (fun _ _ => rfl) (fun k hk => absurd hk (Nat.not_lt_zero k))
      refine ⟨J, L', hJ, g1, ?_⟩
      refine r_M_waysAt_115 hT _ _ _ _ _ _ _ (Nat.le_refl _) (Nat.le_refl _) ?_
      refine bb_t (by rw [mfr_2 hJ, p1]; exact nI_le (Nat.le_refl _) (by omega)) g2
    | succ q ih =>
      intro s J x2 x3 x4 x5 hs hJ hx hp hlv hcol
      have hsS : ¬ S ≤ s := by omega
      have r2 : J mx 2 = nI S := by rw [mfr_2 hJ]; exact p1
      have b1 := hp s (by omega)
      have b2 := hlv s (by omega)
      have l1 : pb s < S := Nat.lt_of_le_of_lt (kpb.2.1 _) (by omega)
      have l2 : pa s < S := Nat.lt_of_le_of_lt (kpa.2.1 _) (by omega)
      have hle := rsL_len (pb := pb) (pa := pa) s
      have col : ∀ (x : Int32), (x = if pb s = s ∧ pa s ≠ s then nI (rsL pb pa s).length else -1) → mfr (ab_up J mx_column s x) I ∧ (∀ y, y < S → (ab_up J mx_column s x) mx_piece y = nI (pb y)) ∧ (∀ y, y < S → (ab_up J mx_column s x) mx_level y = nI (pa y)) ∧ ∀ y, y < s + 1 → (ab_up J mx_column s x) mx_column y = if pb y = y ∧ pa y ≠ y then nI (rsL pb pa y).length else -1 := fun x hx => by
        refine ⟨mfr_up hJ (by unfold mscr; decide) (by decide), fun y hy => by rw [ab_up_o (by decide)]; exact hp y hy, fun y hy => by rw [ab_up_o (by decide)]; exact hlv y hy, fun y hy => ?_⟩
        rw [ab_up_i]
        by_cases e : y = s
        · rw [e, pk_us, hx]
        · rw [pk_un e]; exact hcol y (by omega)
      have cin : ∀ x : Int32, (ab_up J mx_column s x) mx_column s = x := fun x => by rw [ab_up_i, pk_us]
      by_cases c : pb s = s ∧ pa s ≠ s
      · obtain ⟨c1, c2, c3, c4⟩ := col (nI (rsL pb pa s).length) (by rw [if_pos c])
        obtain ⟨J', L', g1, g2, g3⟩ := ih (s + 1) (ab_up J mx_column s (nI (rsL pb pa s).length)) x2 x3 x4 x5 (by omega) c1 hx c2 c3 c4
        rw [rsL_t c.1 c.2, List.length_append, List.length_singleton] at g3
        refine ⟨J', L', g1, g2, ?_⟩
        have ca := c.1
        have cb := c.2
        have z : ab_E w ((d + 2) + 1) mt_M_waysAt 160 [.ref mx, .int (nI v), .int x2, .int x3, .int x4, .int x5, .int (nI (rsL pb pa s).length), .int (nI s), .null, .null] [.int (nI (rsL pb pa s).length), .int (nI s), .ref mx_column] (J, L, ab_RR, n, nc, ns) (.inl (some (.long (lI (Wv e1 e2 pr N sd v)))), (J', L', ab_RR, n, nc, ns)) := by
          refine r_M_waysAt_160 hT _ _ _ _ _ _ _ _ _ (Nat.le_refl _) (Nat.le_refl _) ?_
          refine ⟨vp_in_nI (by omega) (by omega), vp_in_nI (by omega) (by omega), ?_⟩
          rw [nI_clamp (by omega), cin]
          refine ⟨fun _ => ?_, fun h => absurd h (nI_m1 (by omega))⟩
          refine r_M_waysAt_179 hT _ _ _ _ _ _ _ _ _ (Nat.le_refl _) (Nat.le_refl _) ?_
          rw [nI_1, nI_1]; exact g3
        refine r_M_waysAt_115 hT _ _ _ _ _ _ _ (Nat.le_refl _) (Nat.le_refl _) ?_
        simp (disch := first | omega | decide) only [r2, hsS, b1, b2, ca, cb, nl_add1, nl_add2, nl_mul1, nl_mul2, nl_sub1, nl_lt1, nl_lt2, nl_le1, nl_le2, nl_eq1, nl_eq2, nl_m1, nl_m2, nl_inT, nI_add, nI_mul, nI_leI, nI_ltI, nI_eq, nI_clamp, nl_bit, oI_n, oI_s, oI_m1, true_and, and_true, eq_self, Bool.false_eq_true, not_false_eq_true, not_true_eq_false, false_implies, true_implies, implies_true, forall_const, Nat.not_lt_zero, ab_row_eq, ab_row_ne, ab_up_i, ab_up_o, pk_us, pk_un, ab_row_row]
        exact z
      · obtain ⟨c1, c2, c3, c4⟩ := col (-1) (by rw [if_neg c])
        obtain ⟨J', L', g1, g2, g3⟩ := ih (s + 1) (ab_up J mx_column s (-1)) x2 x3 x4 x5 (by omega) c1 hx c2 c3 c4
        rw [rsL_f c] at g3
        refine ⟨J', L', g1, g2, ?_⟩
        have z : ab_E w ((d + 2) + 1) mt_M_waysAt 159 [.ref mx, .int (nI v), .int x2, .int x3, .int x4, .int x5, .int (nI (rsL pb pa s).length), .int (nI s), .null, .null] [.int (nI s), .ref mx_column] (J, L, ab_RR, n, nc, ns) (.inl (some (.long (lI (Wv e1 e2 pr N sd v)))), (J', L', ab_RR, n, nc, ns)) := by
          refine r_M_waysAt_159 hT _ _ _ _ _ _ _ _ (Nat.le_refl _) (Nat.le_refl _) ?_
          refine r_M_waysAt_160 hT _ _ _ _ _ _ _ _ _ (Nat.le_refl _) (Nat.le_refl _) ?_
          refine ⟨vp_in_nI (by omega) (by omega), vp_in_nI (by omega) (by omega), ?_⟩
          rw [nI_clamp (by omega), cin]
          refine ⟨fun h => absurd rfl h, fun _ => ?_⟩
          refine r_M_waysAt_179 hT _ _ _ _ _ _ _ _ _ (Nat.le_refl _) (Nat.le_refl _) ?_
          rw [nI_1, nl_add1, Nat.add_zero]; exact g3
        refine r_M_waysAt_115 hT _ _ _ _ _ _ _ (Nat.le_refl _) (Nat.le_refl _) ?_
        simp (disch := first | omega | decide) only [r2, hsS, b1, b2, nl_add1, nl_add2, nl_mul1, nl_mul2, nl_sub1, nl_lt1, nl_lt2, nl_le1, nl_le2, nl_eq1, nl_eq2, nl_m1, nl_m2, nl_inT, nI_add, nI_mul, nI_leI, nI_ltI, nI_eq, nI_clamp, nl_bit, oI_n, oI_s, oI_m1, true_and, and_true, eq_self, Bool.false_eq_true, not_false_eq_true, not_true_eq_false, false_implies, true_implies, implies_true, forall_const, Nat.not_lt_zero, ab_row_eq, ab_row_ne, ab_up_i, ab_up_o, pk_us, pk_un, ab_row_row]
        exact ⟨fun _ => z, fun h => ⟨fun _ => z, fun h' => absurd ⟨h, h'⟩ c⟩⟩
  have first : ∀ q k, k + q = N → ∃ J' L', mfr J' I ∧ lfr L' L mx_laplace ∧ ab_E w ((d + 2) + 1) mt_M_waysAt 7 [.ref mx, .int (nI v), .int (ab_mask k (lsv sd pr v)), .int (ab_mask k (lkv sd pr v)), .int (nI k), .null, .null, .null, .null, .null] [] (I, L, ab_RR, n, nc, ns) (.inl (some (.long (lI (Wv e1 e2 pr N sd v)))), (J', L', ab_RR, n, nc, ns)) := by
    intro q
    induction q with
    | zero =>
      intro k hk
      have e : k = N := by omega
      subst e
      have xls : ∀ j, j < 32 → bt (ab_mask k (lsv sd pr v)) j = (decide (j < k) && lsv sd pr v j) := fun j hj => ab_mask_bt _ _ (by omega) j hj
      have xlk : ∀ j, j < 32 → bt (ab_mask k (lkv sd pr v)) j = (decide (j < k) && lkv sd pr v j) := fun j hj => ab_mask_bt _ _ (by omega) j hj
      have fl : ∀ (am : Nat → Bool), l.filter (fun j => decide (j < k) && am j) = l.filter am := fun am => List.filter_congr (fun j hj => by rw [decide_eq_true ((p5.2 j).mp hj), Bool.true_and])
      obtain ⟨J1, r1, a1, a2, a3⟩ := z_netOf (w := w) (d := d) (n := n) (nc := nc) (ns := ns) (L := L) hT hm0.1 (v := ab_mask k (lsv sd pr v) ||| ab_mask k (lkv sd pr v)) (am := fun j => decide (j < k) && (lsv sd pr v j || lkv sd pr v j)) (fun j hj => by rw [b_or, xls j hj, xlk j hj, ← Bool.and_or_distrib_left]) (fun j hj => by simp at hj; exact hj.1)
      rw [fl (fun j => lsv sd pr v j || lkv sd pr v j)] at a1
      have f1 := mfr_nm a1
      obtain ⟨J2, b1, b2, b3⟩ := z_copyLevel (w := w) (d := d + 2) (n := n) (nc := nc) (ns := ns) (I := J1) (L := L) hT
      have f2 : mfr J2 I := mfr_trans (mfr_lv (by unfold mscr; decide) (by decide) b1) f1
      obtain ⟨J3, r3, c1, c2, c3⟩ := z_netOf (w := w) (d := d) (n := n) (nc := nc) (ns := ns) (L := L) hT (nm_fr f2 hm0.1) (v := ab_mask k (lsv sd pr v)) (am := fun j => decide (j < k) && lsv sd pr v j) (fun j hj => xls j hj) (fun j hj => by simp at hj; exact hj.1)
      rw [fl (lsv sd pr v)] at c1
      have f3 : mfr J3 I := mfr_trans (mfr_nm c1) f2
      obtain ⟨J', L', g1, g2, g3⟩ := third S 0 J3 (ab_mask k (lsv sd pr v)) (ab_mask k (lkv sd pr v)) r1 r3 (by omega) f3 xlk (fun x hx => by
          rw [c1.2.2.2.2.2 x hx]
          show nI ((kr e1 e2 (l.filter (lsv sd pr v))).2 x) = _
          rw [klist, hpb]) (fun x hx => by
          rw [c1.1 _ (by decide) (by decide) (by decide), b2 x (by omega), a1.2.2.2.2.2 x hx]
          show nI ((kr e1 e2 (l.filter (fun j => lsv sd pr v j || lkv sd pr v j))).2 x) = _
          rw [klist, hpa]) (fun x hx => absurd hx (Nat.not_lt_zero x))
      refine ⟨J', L', g1, g2, ?_⟩
      refine r_M_waysAt_7 hT _ _ _ _ (Nat.le_refl _) (Nat.le_refl _) ?_
      refine bb_t (by rw [p2]; exact nI_le (Nat.le_refl _) (by omega)) ⟨r1, J1, a3, J2, b3, r3, J3, c3, g3⟩
    | succ q ih =>
      intro k hk
      obtain ⟨J', L', g1, g2, g3⟩ := ih (k + 1) (by omega)
      refine ⟨J', L', g1, g2, ?_⟩
      have hkN : ¬ N ≤ k := by omega
      have hsk := m3 k (by omega)
      obtain ⟨-, -, q3, -, -, q6⟩ := p6 k (by omega)
      have o0 : ∀ x : Int32, x ||| 0 = x := fun x => Int32.or_zero
      have z74 : ∀ (a b : Int32), a = ab_mask (k + 1) (lsv sd pr v) → b = ab_mask (k + 1) (lkv sd pr v) → ab_E w ((d + 2) + 1) mt_M_waysAt 7 [.ref mx, .int (nI v), .int a, .int b, .int (nI k + 1), .null, .null, .null, .null, .null] [] (I, L, ab_RR, n, nc, ns) (.inl (some (.long (lI (Wv e1 e2 pr N sd v)))), (J', L', ab_RR, n, nc, ns)) := fun a b ha hb => by rw [ha, hb, nI_1]; exact g3
      by_cases hs : sd k = true
      · by_cases hlt : pr k < v
        · have e1' : ab_mask k (lsv sd pr v) ||| ((1 : Int32) <<< (nI k &&& 31)) = ab_mask (k + 1) (lsv sd pr v) := ab_mask_put (by omega) (by unfold lsv; simp [hs, hlt])
          have e2' : ab_mask k (lkv sd pr v) = ab_mask (k + 1) (lkv sd pr v) := ab_mask_not (by unfold lkv; simp; intro _; omega)
          have h1 : ¬ v ≤ pr k := by omega
          have h2 : ¬ pr k = v := by omega
          refine r_M_waysAt_7 hT _ _ _ _ (Nat.le_refl _) (Nat.le_refl _) ?_
          simp (disch := first | omega | decide) only [p2, hkN, hsk, hs, q3, h1, nl_add1, nl_add2, nl_mul1, nl_mul2, nl_sub1, nl_lt1, nl_lt2, nl_le1, nl_le2, nl_eq1, nl_eq2, nl_m1, nl_m2, nl_inT, nI_add, nI_mul, nI_leI, nI_ltI, nI_eq, nI_clamp, nl_bit, oI_n, oI_s, oI_m1, true_and, and_true, eq_self, Bool.false_eq_true, not_false_eq_true, not_true_eq_false, false_implies, true_implies, implies_true, forall_const, Nat.not_lt_zero, ab_row_eq, ab_row_ne, ab_up_i, ab_up_o, pk_us, pk_un, ab_row_row]
          refine r_M_waysAt_44 hT _ _ _ _ _ _ (Nat.le_refl _) (Nat.le_refl _) ?_
          simp (disch := first | omega | decide) only [hsk, hs, q3, h2, nl_add1, nl_add2, nl_mul1, nl_mul2, nl_sub1, nl_lt1, nl_lt2, nl_le1, nl_le2, nl_eq1, nl_eq2, nl_m1, nl_m2, nl_inT, nI_add, nI_mul, nI_leI, nI_ltI, nI_eq, nI_clamp, nl_bit, oI_n, oI_s, oI_m1, true_and, and_true, eq_self, Bool.false_eq_true, not_false_eq_true, not_true_eq_false, false_implies, true_implies, implies_true, forall_const, Nat.not_lt_zero, ab_row_eq, ab_row_ne, ab_up_i, ab_up_o, pk_us, pk_un, ab_row_row]
          refine r_M_waysAt_73 hT _ _ _ _ _ (Nat.le_refl _) (Nat.le_refl _) ?_
          refine r_M_waysAt_74 hT _ _ _ _ _ _ (Nat.le_refl _) (Nat.le_refl _) ?_
          refine z74 _ _ e1' ?_
          rw [o0]; exact e2'
        · have e1' : ab_mask k (lsv sd pr v) = ab_mask (k + 1) (lsv sd pr v) := ab_mask_not (by unfold lsv; simp; intro _; omega)
          have h1 : v ≤ pr k := by omega
          by_cases he : pr k = v
          · have e2' : ab_mask k (lkv sd pr v) ||| ((1 : Int32) <<< (nI k &&& 31)) = ab_mask (k + 1) (lkv sd pr v) := ab_mask_put (by omega) (by unfold lkv; simp [hs, he])
            refine r_M_waysAt_7 hT _ _ _ _ (Nat.le_refl _) (Nat.le_refl _) ?_
            simp (disch := first | omega | decide) only [p2, hkN, hsk, hs, q3, h1, nl_add1, nl_add2, nl_mul1, nl_mul2, nl_sub1, nl_lt1, nl_lt2, nl_le1, nl_le2, nl_eq1, nl_eq2, nl_m1, nl_m2, nl_inT, nI_add, nI_mul, nI_leI, nI_ltI, nI_eq, nI_clamp, nl_bit, oI_n, oI_s, oI_m1, true_and, and_true, eq_self, Bool.false_eq_true, not_false_eq_true, not_true_eq_false, false_implies, true_implies, implies_true, forall_const, Nat.not_lt_zero, ab_row_eq, ab_row_ne, ab_up_i, ab_up_o, pk_us, pk_un, ab_row_row]
            refine r_M_waysAt_43 hT _ _ _ _ _ (Nat.le_refl _) (Nat.le_refl _) ?_
            refine r_M_waysAt_44 hT _ _ _ _ _ _ (Nat.le_refl _) (Nat.le_refl _) ?_
            simp (disch := first | omega | decide) only [hsk, hs, q3, he, nl_add1, nl_add2, nl_mul1, nl_mul2, nl_sub1, nl_lt1, nl_lt2, nl_le1, nl_le2, nl_eq1, nl_eq2, nl_m1, nl_m2, nl_inT, nI_add, nI_mul, nI_leI, nI_ltI, nI_eq, nI_clamp, nl_bit, oI_n, oI_s, oI_m1, true_and, and_true, eq_self, Bool.false_eq_true, not_false_eq_true, not_true_eq_false, false_implies, true_implies, implies_true, forall_const, Nat.not_lt_zero, ab_row_eq, ab_row_ne, ab_up_i, ab_up_o, pk_us, pk_un, ab_row_row]
            refine r_M_waysAt_74 hT _ _ _ _ _ _ (Nat.le_refl _) (Nat.le_refl _) ?_
            refine z74 _ _ ?_ e2'
            rw [o0]; exact e1'
          · have e2' : ab_mask k (lkv sd pr v) = ab_mask (k + 1) (lkv sd pr v) := ab_mask_not (by unfold lkv; simp; intro _; omega)
            refine r_M_waysAt_7 hT _ _ _ _ (Nat.le_refl _) (Nat.le_refl _) ?_
            simp (disch := first | omega | decide) only [p2, hkN, hsk, hs, q3, h1, nl_add1, nl_add2, nl_mul1, nl_mul2, nl_sub1, nl_lt1, nl_lt2, nl_le1, nl_le2, nl_eq1, nl_eq2, nl_m1, nl_m2, nl_inT, nI_add, nI_mul, nI_leI, nI_ltI, nI_eq, nI_clamp, nl_bit, oI_n, oI_s, oI_m1, true_and, and_true, eq_self, Bool.false_eq_true, not_false_eq_true, not_true_eq_false, false_implies, true_implies, implies_true, forall_const, Nat.not_lt_zero, ab_row_eq, ab_row_ne, ab_up_i, ab_up_o, pk_us, pk_un, ab_row_row]
            refine r_M_waysAt_43 hT _ _ _ _ _ (Nat.le_refl _) (Nat.le_refl _) ?_
            refine r_M_waysAt_44 hT _ _ _ _ _ _ (Nat.le_refl _) (Nat.le_refl _) ?_
            simp (disch := first | omega | decide) only [hsk, hs, q3, he, nl_add1, nl_add2, nl_mul1, nl_mul2, nl_sub1, nl_lt1, nl_lt2, nl_le1, nl_le2, nl_eq1, nl_eq2, nl_m1, nl_m2, nl_inT, nI_add, nI_mul, nI_leI, nI_ltI, nI_eq, nI_clamp, nl_bit, oI_n, oI_s, oI_m1, true_and, and_true, eq_self, Bool.false_eq_true, not_false_eq_true, not_true_eq_false, false_implies, true_implies, implies_true, forall_const, Nat.not_lt_zero, ab_row_eq, ab_row_ne, ab_up_i, ab_up_o, pk_us, pk_un, ab_row_row]
            refine r_M_waysAt_73 hT _ _ _ _ _ (Nat.le_refl _) (Nat.le_refl _) ?_
            refine r_M_waysAt_74 hT _ _ _ _ _ _ (Nat.le_refl _) (Nat.le_refl _) ?_
            refine z74 _ _ ?_ ?_
            · rw [o0]; exact e1'
            · rw [o0]; exact e2'
      · have e1' : ab_mask k (lsv sd pr v) = ab_mask (k + 1) (lsv sd pr v) := ab_mask_not (by unfold lsv; simp [hs])
        have e2' : ab_mask k (lkv sd pr v) = ab_mask (k + 1) (lkv sd pr v) := ab_mask_not (by unfold lkv; simp [hs])
        refine r_M_waysAt_7 hT _ _ _ _ (Nat.le_refl _) (Nat.le_refl _) ?_
        simp (disch := first | omega | decide) only [p2, hkN, hsk, hs, nl_add1, nl_add2, nl_mul1, nl_mul2, nl_sub1, nl_lt1, nl_lt2, nl_le1, nl_le2, nl_eq1, nl_eq2, nl_m1, nl_m2, nl_inT, nI_add, nI_mul, nI_leI, nI_ltI, nI_eq, nI_clamp, nl_bit, oI_n, oI_s, oI_m1, true_and, and_true, eq_self, Bool.false_eq_true, not_false_eq_true, not_true_eq_false, false_implies, true_implies, implies_true, forall_const, Nat.not_lt_zero, ab_row_eq, ab_row_ne, ab_up_i, ab_up_o, pk_us, pk_un, ab_row_row]
        refine r_M_waysAt_43 hT _ _ _ _ _ (Nat.le_refl _) (Nat.le_refl _) ?_
        refine r_M_waysAt_44 hT _ _ _ _ _ _ (Nat.le_refl _) (Nat.le_refl _) ?_
        simp (disch := first | omega | decide) only [hsk, hs, nl_add1, nl_add2, nl_mul1, nl_mul2, nl_sub1, nl_lt1, nl_lt2, nl_le1, nl_le2, nl_eq1, nl_eq2, nl_m1, nl_m2, nl_inT, nI_add, nI_mul, nI_leI, nI_ltI, nI_eq, nI_clamp, nl_bit, oI_n, oI_s, oI_m1, true_and, and_true, eq_self, Bool.false_eq_true, not_false_eq_true, not_true_eq_false, false_implies, true_implies, implies_true, forall_const, Nat.not_lt_zero, ab_row_eq, ab_row_ne, ab_up_i, ab_up_o, pk_us, pk_un, ab_row_row]
        refine r_M_waysAt_73 hT _ _ _ _ _ (Nat.le_refl _) (Nat.le_refl _) ?_
        refine r_M_waysAt_74 hT _ _ _ _ _ _ (Nat.le_refl _) (Nat.le_refl _) ?_
        refine z74 _ _ ?_ ?_
        · rw [o0]; exact e1'
        · rw [o0]; exact e2'
  obtain ⟨J', L', g1, g2, g3⟩ := first N 0 (by omega)
  refine ⟨J', L', g1, g2, ?_⟩
  refine ab_C_of (by decide) rfl (Nat.le_of_ble_eq_true rfl) hT ?_
  refine r_M_waysAt_0 hT _ (Nat.le_refl _) (Nat.le_refl _) ?_
  exact g3
theorem z_alike (hT : w.1.stackTraces = false) (hm : mC I S N sd e1 e2 pr fm l) : ∃ J L', mgr J I ∧ lfr L' L mx_laplace ∧ ab_C w (d + 4) mt_M_alike [.ref mx] (I, L, ab_RR, n, nc, ns) (.inl (some (.long (prW e1 e2 pr N sd 999))), (J, L', ab_RR, n, nc, ns)) := by
  have p4 := hm.1.2.2.2.1
  have hm1 := mC_gr (mgr_c (x := 0)) hm
  generalize hI1 : ab_up I mx 1 0 = I1 at *
  have loop : ∀ q v (J : Nat → Nat → Int32) (L1 : Nat → Nat → Int64), v + q = 1000 → 1 ≤ v → mfr J I1 → lfr L1 L mx_laplace → ∃ J' L', mfr J' I1 ∧ lfr L' L mx_laplace ∧ ab_E w ((d + 3) + 1) mt_M_alike 9 [.ref mx, .long (prW e1 e2 pr N sd (v - 1)), .null, .int (nI v), .null, .null] [] (J, L1, ab_RR, n, nc, ns) (.inl (some (.long (prW e1 e2 pr N sd 999))), (J', L', ab_RR, n, nc, ns)) := by
    intro q
    induction q with
    | zero =>
      intro v J L1 hq h1 hJ hL
      have e : v = 1000 := by omega
      subst e
      refine ⟨J, L1, hJ, hL, ?_⟩
      refine r_M_alike_9 hT _ _ (Nat.le_refl _) (Nat.le_refl _) ?_
      exact bb_t (by decide) rfl
    | succ q ih =>
      intro v J L1 hq h1 hJ hL
      have hv : ¬ 999 < v := by omega
      have hm2 := mC_fr hJ hm1
      have p2 := hm2.1.2.1
      have prod : prW e1 e2 pr N sd (v - 1) * lI (Wv e1 e2 pr N sd v) = prW e1 e2 pr N sd v := by
        conv => rhs; rw [show v = (v - 1) + 1 by omega]
        rw [prW, show v - 1 + 1 = v by omega]
      have inner : ∀ r k (b : Bool), k + r = N → (b = true ↔ ∃ c, c < k ∧ lkv sd pr v c = true) → ∃ J' L', mfr J' I1 ∧ lfr L' L mx_laplace ∧ ab_E w ((d + 3) + 1) mt_M_alike 22 [.ref mx, .long (prW e1 e2 pr N sd (v - 1)), .null, .int (nI v), .int (if b then 1 else 0), .int (nI k)] [] (J, L1, ab_RR, n, nc, ns) (.inl (some (.long (prW e1 e2 pr N sd 999))), (J', L', ab_RR, n, nc, ns)) := by
        intro r
        induction r with
        | zero =>
          intro k b hk hb
          have e : k = N := by omega
          subst e
          have hle : nI k ≤ nI k := nI_le (Nat.le_refl _) (by omega)
          cases b with
          | true =>
            obtain ⟨J2, L2, a1, a2, a3⟩ := z_waysAt (w := w) (d := d) (n := n) (nc := nc) (ns := ns) (I := J) (L := L1) hT hm2 (v := v) (by omega)
            obtain ⟨J', L', g1, g2, g3⟩ := ih (v + 1) J2 L2 (by omega) (by omega) (mfr_trans a1 hJ) (fun a ha => (a2 a ha).trans (hL a ha))
            rw [show v + 1 - 1 = v by omega] at g3
            refine ⟨J', L', g1, g2, ?_⟩
            refine r_M_alike_22 hT _ _ _ _ (Nat.le_refl _) (Nat.le_refl _) ?_
            refine bb_t (by rw [p2]; exact hle) ⟨fun h => absurd h (by decide), fun _ => ⟨_, J2, L2, a3, ?_⟩⟩
            rw [prod, nI_1]; exact g3
          | false =>
            obtain ⟨J', L', g1, g2, g3⟩ := ih (v + 1) J L1 (by omega) (by omega) hJ hL
            rw [show v + 1 - 1 = v by omega, ← prod, W_none (fun c hc => by
              cases hh : lkv sd pr v c with
              | false => rfl
              | true => exact absurd (hb.mpr ⟨c, hc, hh⟩) (by decide)), lI_1] at g3
            refine ⟨J', L', g1, g2, ?_⟩
            refine r_M_alike_22 hT _ _ _ _ (Nat.le_refl _) (Nat.le_refl _) ?_
            refine bb_t (by rw [p2]; exact hle) ⟨fun _ => ?_, fun h => absurd rfl h⟩
            rw [nI_1]; exact g3
        | succ r ihr =>
          intro k b hk hb
          have hkN : ¬ N ≤ k := by omega
          have hsk := hm2.2.2.1 k (by omega)
          obtain ⟨-, -, q3, -, -, q6⟩ := hm2.1.2.2.2.2.2 k (by omega)
          have nx : ∀ b', (b' = true ↔ (b = true ∨ lkv sd pr v k = true)) → ∃ J' L', mfr J' I1 ∧ lfr L' L mx_laplace ∧ ab_E w ((d + 3) + 1) mt_M_alike 22 [.ref mx, .long (prW e1 e2 pr N sd (v - 1)), .null, .int (nI v), .int (if b' then 1 else 0), .int (nI (k + 1))] [] (J, L1, ab_RR, n, nc, ns) (.inl (some (.long (prW e1 e2 pr N sd 999))), (J', L', ab_RR, n, nc, ns)) := fun b' hb' => ihr (k + 1) b' (by omega) (by
            rw [hb', hb]
            constructor
            · rintro (⟨c, h1, h2⟩ | h)
              · exact ⟨c, by omega, h2⟩
              · exact ⟨k, by omega, h⟩
            · rintro ⟨c, h1, h2⟩
              by_cases e : c = k
              · rw [e] at h2; exact Or.inr h2
              · exact Or.inl ⟨c, by omega, h2⟩)
          cases b with
          | true =>
            obtain ⟨J', L', g1, g2, g3⟩ := nx true (by simp)
            refine ⟨J', L', g1, g2, ?_⟩
            refine r_M_alike_22 hT _ _ _ _ (Nat.le_refl _) (Nat.le_refl _) ?_
            simp (disch := first | omega | decide) only [p2, hkN, nl_add1, nl_add2, nl_mul1, nl_mul2, nl_sub1, nl_lt1, nl_lt2, nl_le1, nl_le2, nl_eq1, nl_eq2, nl_m1, nl_m2, nl_inT, nI_add, nI_mul, nI_leI, nI_ltI, nI_eq, nI_clamp, nl_bit, oI_n, oI_s, oI_m1, true_and, and_true, eq_self, Bool.false_eq_true, not_false_eq_true, not_true_eq_false, false_implies, true_implies, implies_true, forall_const, Nat.not_lt_zero, ab_row_eq, ab_row_ne, ab_up_i, ab_up_o, pk_us, pk_un, ab_row_row]
            exact ⟨fun _ => g3, fun h => absurd h (by decide)⟩
          | false =>
            by_cases hl : lkv sd pr v k = true
            · obtain ⟨J', L', g1, g2, g3⟩ := nx true (by simp [hl])
              refine ⟨J', L', g1, g2, ?_⟩
              have hl2 := hl
              unfold lkv at hl2
              rw [Bool.and_eq_true, decide_eq_true_iff] at hl2
              obtain ⟨hs, he⟩ := hl2
              refine r_M_alike_22 hT _ _ _ _ (Nat.le_refl _) (Nat.le_refl _) ?_
              simp (disch := first | omega | decide) only [p2, hkN, hsk, hs, q3, he, nl_add1, nl_add2, nl_mul1, nl_mul2, nl_sub1, nl_lt1, nl_lt2, nl_le1, nl_le2, nl_eq1, nl_eq2, nl_m1, nl_m2, nl_inT, nI_add, nI_mul, nI_leI, nI_ltI, nI_eq, nI_clamp, nl_bit, oI_n, oI_s, oI_m1, true_and, and_true, eq_self, Bool.false_eq_true, not_false_eq_true, not_true_eq_false, false_implies, true_implies, implies_true, forall_const, Nat.not_lt_zero, ab_row_eq, ab_row_ne, ab_up_i, ab_up_o, pk_us, pk_un, ab_row_row]
              exact ⟨fun h => absurd rfl h, fun _ => g3⟩
            · obtain ⟨J', L', g1, g2, g3⟩ := nx false (by simp [hl])
              refine ⟨J', L', g1, g2, ?_⟩
              by_cases hs : sd k = true
              · have he : ¬ pr k = v := fun e => hl (by unfold lkv; simp [hs, e])
                refine r_M_alike_22 hT _ _ _ _ (Nat.le_refl _) (Nat.le_refl _) ?_
                simp (disch := first | omega | decide) only [p2, hkN, hsk, hs, q3, he, nl_add1, nl_add2, nl_mul1, nl_mul2, nl_sub1, nl_lt1, nl_lt2, nl_le1, nl_le2, nl_eq1, nl_eq2, nl_m1, nl_m2, nl_inT, nI_add, nI_mul, nI_leI, nI_ltI, nI_eq, nI_clamp, nl_bit, oI_n, oI_s, oI_m1, true_and, and_true, eq_self, Bool.false_eq_true, not_false_eq_true, not_true_eq_false, false_implies, true_implies, implies_true, forall_const, Nat.not_lt_zero, ab_row_eq, ab_row_ne, ab_up_i, ab_up_o, pk_us, pk_un, ab_row_row]
                exact ⟨fun h => absurd rfl h, fun _ => g3⟩
              · refine r_M_alike_22 hT _ _ _ _ (Nat.le_refl _) (Nat.le_refl _) ?_
                simp (disch := first | omega | decide) only [p2, hkN, hsk, hs, nl_add1, nl_add2, nl_mul1, nl_mul2, nl_sub1, nl_lt1, nl_lt2, nl_le1, nl_le2, nl_eq1, nl_eq2, nl_m1, nl_m2, nl_inT, nI_add, nI_mul, nI_leI, nI_ltI, nI_eq, nI_clamp, nl_bit, oI_n, oI_s, oI_m1, true_and, and_true, eq_self, Bool.false_eq_true, not_false_eq_true, not_true_eq_false, false_implies, true_implies, implies_true, forall_const, Nat.not_lt_zero, ab_row_eq, ab_row_ne, ab_up_i, ab_up_o, pk_us, pk_un, ab_row_row]
                exact ⟨fun h => absurd rfl h, fun _ => g3⟩
      obtain ⟨J', L', g1, g2, g3⟩ := inner N 0 false (by omega) ⟨fun h => absurd h (by decide), fun h => by obtain ⟨c, h, -⟩ := h; omega⟩
      refine ⟨J', L', g1, g2, ?_⟩
      refine r_M_alike_9 hT _ _ (Nat.le_refl _) (Nat.le_refl _) ?_
      simp (disch := first | omega | decide) only [hv, nl_add1, nl_add2, nl_mul1, nl_mul2, nl_sub1, nl_lt1, nl_lt2, nl_le1, nl_le2, nl_eq1, nl_eq2, nl_m1, nl_m2, nl_inT, nI_add, nI_mul, nI_leI, nI_ltI, nI_eq, nI_clamp, nl_bit, oI_n, oI_s, oI_m1, true_and, and_true, eq_self, Bool.false_eq_true, not_false_eq_true, not_true_eq_false, false_implies, true_implies, implies_true, forall_const, Nat.not_lt_zero, ab_row_eq, ab_row_ne, ab_up_i, ab_up_o, pk_us, pk_un, ab_row_row]
      exact g3
  obtain ⟨J', L', g1, g2, g3⟩ := loop 999 1 I1 L (by omega) (Nat.le_refl _) mfr_refl (fun _ _ => rfl)
  refine ⟨J', L', mgr_trans (mgr_of g1) (by rw [← hI1]; exact mgr_c), g2, ?_⟩
  refine ab_C_of (by decide) rfl (Nat.le_of_ble_eq_true rfl) hT ?_
  refine r_M_alike_0 hT (Nat.le_refl _) (Nat.le_refl _) ?_
  rw [hI1]
  exact g3
end MLI
