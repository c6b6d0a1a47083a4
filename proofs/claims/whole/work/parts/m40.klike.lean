/-! LIKE NETS: the steps, on both sides -/
def lI (z : Int) : Int64 := Int64.ofInt z
theorem st64 {p x a b c e : Int} (hp : 0 < p) (hp' : p ≤ 43046721) (hx : -43046721 ≤ x ∧ x ≤ 43046721) (h : p * x = a * b - c * e) : (lI a * lI b - lI c * lI e) / lI p = lI x := by
  unfold lI
  rw [← Int64.ofInt_mul, ← Int64.ofInt_mul, ← Int64.ofInt_sub, ← h]
  have b1 : p * x ≤ 43046721 * 43046721 := by
    rcases Int.le_total 0 x with g | g
    · exact Int.mul_le_mul hp' hx.2 g (by omega)
    · have := Int.mul_nonpos_of_nonneg_of_nonpos (Int.le_of_lt hp) g; omega
  have b2 : -(43046721 * 43046721) ≤ p * x := by
    rcases Int.le_total 0 x with g | g
    · have := Int.mul_nonneg (Int.le_of_lt hp) g; omega
    · have h1 : p * (-x) ≤ 43046721 * 43046721 := Int.mul_le_mul hp' (by omega) (by omega) (by omega)
      have h2 : p * (-x) = -(p * x) := by grind
      omega
  have m1 : Int64.minValue.toInt = -9223372036854775808 := by decide
  have m2 : Int64.maxValue.toInt = 9223372036854775807 := by decide
  rw [← Int64.ofInt_tdiv (by rw [m1]; omega) (by rw [m2]; omega) (by rw [m1]; omega) (by rw [m2]; omega), Int.mul_tdiv_cancel_left _ (by omega)]
theorem lI_ne0 {p : Int} (hp : 0 < p) (hp' : p ≤ 43046721) : ¬ lI p = 0 := fun h => by
  have := congrArg Int64.toInt h
  unfold lI at this
  rw [Int64.toInt_ofInt_of_le (by omega) (by omega)] at this
  have e0 : (0 : Int64).toInt = 0 := by decide
  omega
theorem lI_1 : lI 1 = 1 := by decide
theorem upL_i {L : Nat → Nat → Int64} {i k : Nat} {x : Int64} : ab_upL L i k x i = vp_updL (L i) k x := if_pos rfl
theorem upL_o {L : Nat → Nat → Int64} {i k j : Nat} {x : Int64} (h : j ≠ i) : ab_upL L i k x j = L j := if_neg h
theorem updL_s {f : Nat → Int64} {k : Nat} {x : Int64} : vp_updL f k x k = x := by unfold vp_updL; exact if_pos rfl
theorem updL_n {f : Nat → Int64} {k j : Nat} {x : Int64} (h : j ≠ k) : vp_updL f k x j = f j := by unfold vp_updL; exact if_neg h
/-- the matrix lies in a cell -/
def mtL (L : Nat → Nat → Int64) (c : Nat) (at' : Nat → Nat → Nat) (M : Nat → Nat → Int) (k n : Nat) : Prop := ∀ i j, k ≤ i → i < n → k ≤ j → j < n → L c (at' i j) = lI (M i j)
section KLI
variable {w : ab_Wd} {d n nc ns : Nat} {I : Nat → Nat → Int32} {L : Nat → Nat → Int64}
/-- what the class leaves of the longs -/
def lfr (L' L : Nat → Nat → Int64) (c : Nat) : Prop := ∀ a, a ≠ c → L' a = L a
theorem k_eliminate (hT : w.1.stackTraces = false) {rs : List Nat} {A : Nat → Nat → Int} {k : Nat} (hn : rs.Nodup) (h10 : ∀ s ∈ rs, s < 10) (hr : ∀ i, i < rs.length → I kx_likes_rows i = nI (rs.getD i 0)) (hl : rs.length ≤ 10) (hk : k < rs.length) (hg : gnd A 0 rs.length) {f : Nat → Nat} (hf : ∀ i, i < rs.length → A i i = (f i : Int)) (hs : smf f rs.length ≤ 48) (hL : mtL L kx_likes_matrix (fun i j => rs.getD i 0 * 10 + rs.getD j 0) (DD A k) k rs.length) :
    ∃ L', lfr L' L kx_likes_matrix ∧ mtL L' kx_likes_matrix (fun i j => rs.getD i 0 * 10 + rs.getD j 0) (DD A (k + 1)) (k + 1) rs.length ∧ ab_C w d mt_Likes_eliminate [.ref kx_likes, .int (nI k), .int (nI rs.length), .long (lI (pv A k))] (I, L, ab_RR, n, nc, ns) (.inl none, (I, L', ab_RR, n, nc, ns)) := by
  generalize hat : (fun i j => rs.getD i 0 * 10 + rs.getD j 0) = at' at *
  have at_eq : ∀ i j, at' i j = rs.getD i 0 * 10 + rs.getD j 0 := fun i j => by rw [← hat]
  have lt10 : ∀ i, i < rs.length → rs.getD i 0 < 10 := fun i hi => h10 _ (getD_mem hi)
  have inj : ∀ i j i' j', i < rs.length → j < rs.length → i' < rs.length → j' < rs.length → at' i j = at' i' j' → i = i' ∧ j = j' := fun i j i' j' a b c e h => by
    rw [at_eq, at_eq] at h
    have := lt10 j b
    have := lt10 j' e
    exact ⟨getD_inj hn a c (by omega), getD_inj hn b e (by omega)⟩
  have hp := pv_bound hg hf hs (k := k) (by omega)
  have hall : ∀ t, t ≤ k + 1 → pv A t ≠ 0 := fun t ht => by have := pv_bound hg hf hs (k := t) (by omega); omega
  have step : ∀ i j, k < i → i < rs.length → k < j → j < rs.length → (lI (DD A k i j) * lI (DD A k k k) - lI (DD A k i k) * lI (DD A k k j)) / lI (pv A k) = lI (DD A (k + 1) i j) := fun i j hi hi' hj hj' => by
    refine st64 hp.1 hp.2 (DD_bound hg hf hs (by omega) hi' (by omega) hj') ?_
    rw [DD_step hall, DD_pv]; grind
  have lk0 : ¬ lI (pv A k) = 0 := lI_ne0 hp.1 hp.2
  have cmp0 : ¬ lg_cmp (lI (pv A k)) 0 = 0 := fun h => lk0 ((lg_cmp_eq _ _).mp h)
  -- what was done so far
  generalize hSt : (fun (L1 : Nat → Nat → Int64) (a b : Nat) => lfr L1 L kx_likes_matrix ∧ ∀ i j, k ≤ i → i < rs.length → k ≤ j → j < rs.length → L1 kx_likes_matrix (at' i j) = lI (if k < i ∧ k < j ∧ (i < a ∨ (i = a ∧ j < b)) then DD A (k + 1) i j else DD A k i j)) = St
  have outer : ∀ m i (L1 : Nat → Nat → Int64), i + m = rs.length → k < i → St L1 i 0 → ∃ L', St L' rs.length 0 ∧ ab_E w d mt_Likes_eliminate 20 [.ref kx_likes, .int (nI k), .int (nI rs.length), .long (lI (pv A k)), .null, .int (nI (rs.getD k 0)), .int (nI i), .null, .null, .null, .null, .null, .null] [] (I, L1, ab_RR, n, nc, ns) (.inl none, (I, L', ab_RR, n, nc, ns)) := by
    intro m
    induction m with
    | zero =>
      intro i L1 hi hki hS
      have e : i = rs.length := by omega
      subst e
      refine ⟨L1, hS, ?_⟩
      refine r_Likes_eliminate_20 hT _ _ _ _ _ (Nat.le_refl _) (Nat.le_refl _) ?_
      exact bb_t (nI_le (Nat.le_refl _) (by omega)) rfl
    | succ m ih =>
      intro i L1 hi hki hS
      have inner : ∀ q j (L1 : Nat → Nat → Int64), j + q = rs.length → k < j → St L1 i j → ∃ L', St L' rs.length 0 ∧ ab_E w d mt_Likes_eliminate 43 [.ref kx_likes, .int (nI k), .int (nI rs.length), .long (lI (pv A k)), .null, .int (nI (rs.getD k 0)), .int (nI i), .int (nI (rs.getD i 0 * 10)), .int (nI j), .null, .null, .null, .null] [] (I, L1, ab_RR, n, nc, ns) (.inl none, (I, L', ab_RR, n, nc, ns)) := by
        intro q
        induction q with
        | zero =>
          intro j L1 hj hkj hS
          have e : j = rs.length := by omega
          subst e
          obtain ⟨L', g1, g2⟩ := ih (i + 1) L1 (by omega) (by omega) (by
            rw [← hSt] at hS ⊢
            refine ⟨hS.1, fun a b h1 h2 h3 h4 => ?_⟩
            rw [hS.2 a b h1 h2 h3 h4]
            by_cases c : k < a ∧ k < b ∧ (a < i ∨ (a = i ∧ b < rs.length))
            · rw [if_pos c, if_pos (by omega)]
            · rw [if_neg c, if_neg (by omega)])
          refine ⟨L', g1, ?_⟩
          refine r_Likes_eliminate_43 hT _ _ _ _ _ _ _ (Nat.le_refl _) (Nat.le_refl _) ?_
          refine bb_t (nI_le (Nat.le_refl _) (by omega)) ?_
          rw [nI_1]; exact g2
        | succ q ihq =>
          intro j L1 hj hkj hS
          have hS' := hS
          rw [← hSt] at hS'
          obtain ⟨s1, s2⟩ := hS'
          have hi' : i < rs.length := by omega
          have hj' : j < rs.length := by omega
          have r1 := s2 i j (by omega) hi' (by omega) hj'
          have r2 := s2 k k (Nat.le_refl k) hk (Nat.le_refl k) hk
          have r3 := s2 i k (by omega) hi' (Nat.le_refl k) hk
          have r4 := s2 k j (Nat.le_refl k) hk (by omega) hj'
          rw [if_neg (by omega), at_eq] at r1 r2 r3 r4
          have li := lt10 i hi'
          have lj := lt10 j hj'
          have lkk := lt10 k hk
          have hrj := hr j hj'
          obtain ⟨L', g1, g2⟩ := ihq (j + 1) (ab_upL L1 kx_likes_matrix (rs.getD i 0 * 10 + rs.getD j 0) (lI (DD A (k + 1) i j))) (by omega) (by omega) (by
            rw [← hSt]
            refine ⟨fun a ha => by rw [upL_o ha]; exact s1 a ha, fun a b h1 h2 h3 h4 => ?_⟩
            rw [upL_i]
            by_cases c : a = i ∧ b = j
            · rw [c.1, c.2, at_eq, updL_s, if_pos (by omega)]
            · rw [updL_n (fun e => c (inj a b i j h2 h4 hi' hj' (by rw [e, at_eq]))), s2 a b h1 h2 h3 h4]
              by_cases c2 : k < a ∧ k < b ∧ (a < i ∨ (a = i ∧ b < j))
              · rw [if_pos c2, if_pos (by omega)]
              · rw [if_neg c2, if_neg (by omega)])
          refine ⟨L', g1, ?_⟩
          have hjl : ¬ rs.length ≤ j := by omega
          have st := step i j hki hi' hkj hj'
          refine r_Likes_eliminate_43 hT _ _ _ _ _ _ _ (Nat.le_refl _) (Nat.le_refl _) ?_
          simp (disch := first | omega | decide) only [hjl, hrj, r1, r2, r3, r4, st, lk0, nl_add1, nl_add2, nl_mul1, nl_mul2, nl_sub1, nl_lt1, nl_lt2, nl_le1, nl_le2, nl_eq1, nl_eq2, nl_m1, nl_m2, nl_inT, nI_add, nI_mul, nI_leI, nI_ltI, nI_eq, nI_clamp, nl_bit, oI_n, oI_s, oI_m1, true_and, and_true, eq_self, Bool.false_eq_true, not_false_eq_true, not_true_eq_false, false_implies, true_implies, implies_true, forall_const, Nat.not_lt_zero, ab_row_eq, ab_row_ne, ab_up_i, ab_up_o, pk_us, pk_un, ab_row_row]
          exact g2
      have hrk := hr i (by omega)
      obtain ⟨L', g1, g2⟩ := inner (rs.length - (k + 1)) (k + 1) L1 (by omega) (by omega) (by
        rw [← hSt] at hS ⊢
        refine ⟨hS.1, fun a b h1 h2 h3 h4 => ?_⟩
        rw [hS.2 a b h1 h2 h3 h4]
        by_cases c : k < a ∧ k < b ∧ (a < i ∨ (a = i ∧ b < 0))
        · rw [if_pos c, if_pos (by omega)]
        · rw [if_neg c, if_neg (by omega)])
      refine ⟨L', g1, ?_⟩
      have hil : ¬ rs.length ≤ i := by omega
      refine r_Likes_eliminate_20 hT _ _ _ _ _ (Nat.le_refl _) (Nat.le_refl _) ?_
      simp (disch := first | omega | decide) only [hil, hrk, nl_add1, nl_add2, nl_mul1, nl_mul2, nl_sub1, nl_lt1, nl_lt2, nl_le1, nl_le2, nl_eq1, nl_eq2, nl_m1, nl_m2, nl_inT, nI_add, nI_mul, nI_leI, nI_ltI, nI_eq, nI_clamp, nl_bit, oI_n, oI_s, oI_m1, true_and, and_true, eq_self, Bool.false_eq_true, not_false_eq_true, not_true_eq_false, false_implies, true_implies, implies_true, forall_const, Nat.not_lt_zero, ab_row_eq, ab_row_ne, ab_up_i, ab_up_o, pk_us, pk_un, ab_row_row]
      exact g2
  obtain ⟨L', g1, g2⟩ := outer (rs.length - (k + 1)) (k + 1) L (by omega) (by omega) (by
    rw [← hSt]
    refine ⟨fun _ _ => rfl, fun i j h1 h2 h3 h4 => ?_⟩
    rw [if_neg (by omega)]; exact hL i j h1 h2 h3 h4)
  rw [← hSt] at g1
  refine ⟨L', g1.1, fun i j h1 h2 h3 h4 => ?_, ?_⟩
  · rw [g1.2 i j (by omega) h2 (by omega) h4, if_pos (by omega)]
  · have hrk := hr k hk
    refine ab_C_of (by decide) rfl (Nat.le_of_ble_eq_true rfl) hT ?_
    refine r_Likes_eliminate_0 hT _ _ _ (Nat.le_refl _) (Nat.le_refl _) ?_
    refine ⟨fun _ => ⟨vp_in_nI (by omega) (by omega), ?_⟩, fun h => absurd h cmp0⟩
    rw [nI_clamp (by omega), hrk, nI_1]; exact g2
theorem k_clear (hT : w.1.stackTraces = false) : ∃ L', lfr L' L kx_likes_matrix ∧ (∀ k, k < 100 → L' kx_likes_matrix k = 0) ∧ ab_C w d mt_Likes_clearMatrix [.ref kx_likes] (I, L, ab_RR, n, nc, ns) (.inl none, (I, L', ab_RR, n, nc, ns)) := by
  have loop : ∀ m i (L1 : Nat → Nat → Int64), i + m = 100 → lfr L1 L kx_likes_matrix → (∀ k, k < i → L1 kx_likes_matrix k = 0) → ∃ L', lfr L' L kx_likes_matrix ∧ (∀ k, k < 100 → L' kx_likes_matrix k = 0) ∧ ab_E w d mt_Likes_clearMatrix 2 [.ref kx_likes, .int (nI i)] [] (I, L1, ab_RR, n, nc, ns) (.inl none, (I, L', ab_RR, n, nc, ns)) := by
    intro m
    induction m with
    | zero =>
      intro i L1 hi h1 h2
      refine ⟨L1, h1, fun k hk => h2 k (by omega), ?_⟩
      have hi1 : 100 ≤ i := by omega
      refine r_Likes_clearMatrix_2 hT _ (Nat.le_refl _) (Nat.le_refl _) ?_
      simp (disch := first | omega | decide) only [hi1, nl_add1, nl_add2, nl_mul1, nl_mul2, nl_sub1, nl_lt1, nl_lt2, nl_le1, nl_le2, nl_eq1, nl_eq2, nl_m1, nl_m2, nl_inT, nI_add, nI_mul, nI_leI, nI_ltI, nI_eq, nI_clamp, nl_bit, oI_n, oI_s, oI_m1, true_and, and_true, eq_self, Bool.false_eq_true, not_false_eq_true, not_true_eq_false, false_implies, true_implies, implies_true, forall_const, Nat.not_lt_zero, ab_row_eq, ab_row_ne, ab_up_i, ab_up_o, pk_us, pk_un, ab_row_row]
    | succ m ih =>
      intro i L1 hi h1 h2
      obtain ⟨L', g1, g2, g3⟩ := ih (i + 1) (ab_upL L1 kx_likes_matrix i 0) (by omega) (fun a ha => by rw [upL_o ha]; exact h1 a ha) (fun k hk => by
        rw [upL_i]
        by_cases e : k = i
        · rw [e, updL_s]
        · rw [updL_n e]; exact h2 k (by omega))
      refine ⟨L', g1, g2, ?_⟩
      have hi1 : ¬ 100 ≤ i := by omega
      refine r_Likes_clearMatrix_2 hT _ (Nat.le_refl _) (Nat.le_refl _) ?_
      simp (disch := first | omega | decide) only [hi1, nl_add1, nl_add2, nl_mul1, nl_mul2, nl_sub1, nl_lt1, nl_lt2, nl_le1, nl_le2, nl_eq1, nl_eq2, nl_m1, nl_m2, nl_inT, nI_add, nI_mul, nI_leI, nI_ltI, nI_eq, nI_clamp, nl_bit, oI_n, oI_s, oI_m1, true_and, and_true, eq_self, Bool.false_eq_true, not_false_eq_true, not_true_eq_false, false_implies, true_implies, implies_true, forall_const, Nat.not_lt_zero, ab_row_eq, ab_row_ne, ab_up_i, ab_up_o, pk_us, pk_un, ab_row_row]
      exact g3
  obtain ⟨L', g1, g2, g3⟩ := loop 100 0 L (by omega) (fun _ _ => rfl) (fun k hk => absurd hk (Nat.not_lt_zero k))
  refine ⟨L', g1, g2, ?_⟩
  refine ab_C_of (by decide) rfl (Nat.le_of_ble_eq_true rfl) hT ?_
  refine r_Likes_clearMatrix_0 hT (Nat.le_refl _) (Nat.le_refl _) ?_
  exact g3
/-- the rows of the sums -/
def rsL (pb pa : Nat → Nat) (i : Nat) : List Nat := (List.range i).filter (fun s => decide (pb s = s) && !decide (pa s = s))
theorem rsL_mem {pb pa : Nat → Nat} {i s : Nat} : s ∈ rsL pb pa i ↔ (s < i ∧ pb s = s ∧ pa s ≠ s) := by
  unfold rsL
  rw [List.mem_filter, List.mem_range]; simp
theorem rsL_nd {pb pa : Nat → Nat} {i : Nat} : (rsL pb pa i).Nodup := List.Pairwise.filter _ List.nodup_range
theorem rsL_t {pb pa : Nat → Nat} {i : Nat} (h : pb i = i) (g : pa i ≠ i) : rsL pb pa (i + 1) = rsL pb pa i ++ [i] := by
  unfold rsL
  rw [List.range_succ, List.filter_append]; simp [h, g]
theorem rsL_f {pb pa : Nat → Nat} {i : Nat} (h : ¬ (pb i = i ∧ pa i ≠ i)) : rsL pb pa (i + 1) = rsL pb pa i := by
  unfold rsL
  rw [List.range_succ, List.filter_append]
  have : [i].filter (fun s => decide (pb s = s) && !decide (pa s = s)) = [] := by
    rw [List.filter_cons]
    simp
    intro h1; exact Classical.byContradiction fun h2 => h ⟨h1, h2⟩
  rw [this, List.append_nil]
theorem rsL_len {pb pa : Nat → Nat} (i : Nat) : (rsL pb pa i).length ≤ i := by
  have := nd_lt (S := i) (rsL_nd (pb := pb) (pa := pa) (i := i)) (fun s hs => (rsL_mem.mp hs).1)
  exact this
theorem k_choices (hT : w.1.stackTraces = false) {pb pa : Nat → Nat} {Lp : Nat → Nat → Int} (hb : ∀ x, x < 10 → I kx_likes_before x = nI (pb x)) (ha : ∀ x, x < 10 → I kx_likes_behind x = nI (pa x)) (lb : ∀ x, x < 10 → pb x < 10) (la : ∀ x, x < 10 → pa x < 10) (hL : ∀ s t, s < 10 → t < 10 → L kx_likes_matrix (s * 10 + t) = lI (Lp s t)) (hg : gnd (fun i j => Lp ((rsL pb pa 10).getD i 0) ((rsL pb pa 10).getD j 0)) 0 (rsL pb pa 10).length) {f : Nat → Nat} (hf : ∀ i, i < (rsL pb pa 10).length → Lp ((rsL pb pa 10).getD i 0) ((rsL pb pa 10).getD i 0) = (f i : Int)) (hs : smf f (rsL pb pa 10).length ≤ 48) :
    ∃ J L', (∀ c, c ≠ kx_likes_rows → J c = I c) ∧ lfr L' L kx_likes_matrix ∧ ab_C w (d + 1) mt_Likes_choices [.ref kx_likes] (I, L, ab_RR, n, nc, ns) (.inl (some (.long (lI (pv (fun i j => Lp ((rsL pb pa 10).getD i 0) ((rsL pb pa 10).getD j 0)) (rsL pb pa 10).length)))), (J, L', ab_RR, n, nc, ns)) := by
  generalize hrs : rsL pb pa 10 = rs at *
  have hn : rs.Nodup := by rw [← hrs]; exact rsL_nd
  have h10 : ∀ s ∈ rs, s < 10 := fun s h => by rw [← hrs] at h; exact (rsL_mem.mp h).1
  have hlen : rs.length ≤ 10 := by rw [← hrs]; exact rsL_len 10
  generalize hA : (fun i j => Lp (rs.getD i 0) (rs.getD j 0)) = A at *
  have second : ∀ m k (J : Nat → Nat → Int32) (L1 : Nat → Nat → Int64), k + m = rs.length → (∀ c, c ≠ kx_likes_rows → J c = I c) → (∀ i, i < rs.length → J kx_likes_rows i = nI (rs.getD i 0)) → lfr L1 L kx_likes_matrix → mtL L1 kx_likes_matrix (fun i j => rs.getD i 0 * 10 + rs.getD j 0) (DD A k) k rs.length →
      ∃ L', lfr L' L kx_likes_matrix ∧ ab_E w (d + 1) mt_Likes_choices 51 [.ref kx_likes, .int (nI rs.length), .long (lI (pv A k)), .null, .int (nI k), .null, .null] [] (J, L1, ab_RR, n, nc, ns) (.inl (some (.long (lI (pv A rs.length)))), (J, L', ab_RR, n, nc, ns)) := by
    intro m
    induction m with
    | zero =>
      intro k J L1 hk hJ hr h1 h2
      have e : k = rs.length := by omega
      refine ⟨L1, h1, ?_⟩
      refine r_Likes_choices_51 hT _ _ _ (Nat.le_refl _) (Nat.le_refl _) ?_
      refine bb_t (nI_le (by omega) (by omega)) ?_
      rw [e]
    | succ m ih =>
      intro k J L1 hk hJ hr h1 h2
      obtain ⟨L2, a1, a2, a3⟩ := k_eliminate (w := w) (d := d) (n := n) (nc := nc) (ns := ns) (I := J) (L := L1) hT hn h10 hr hlen (show k < rs.length by omega) hg (f := f) (fun i hi => by rw [← hA]; exact hf i hi) hs h2
      obtain ⟨L', g1, g2⟩ := ih (k + 1) J L2 (by omega) hJ hr (fun a ha => (a1 a ha).trans (h1 a ha)) a2
      refine ⟨L', g1, ?_⟩
      have hrk := hr k (by omega)
      have hlt := h10 _ (getD_mem (show k < rs.length by omega))
      have hkl : ¬ rs.length ≤ k := by omega
      have rd := h2 k k (Nat.le_refl k) (by omega) (Nat.le_refl k) (by omega)
      rw [DD_pv] at rd
      have rd : L1 kx_likes_matrix (rs.getD k 0 * 10 + rs.getD k 0) = lI (pv A (k + 1)) := rd
      refine r_Likes_choices_51 hT _ _ _ (Nat.le_refl _) (Nat.le_refl _) ?_
      simp (disch := first | omega | decide) only [hkl, hrk, rd, nl_add1, nl_add2, nl_mul1, nl_mul2, nl_sub1, nl_lt1, nl_lt2, nl_le1, nl_le2, nl_eq1, nl_eq2, nl_m1, nl_m2, nl_inT, nI_add, nI_mul, nI_leI, nI_ltI, nI_eq, nI_clamp, nl_bit, oI_n, oI_s, oI_m1, true_and, and_true, eq_self, Bool.false_eq_true, not_false_eq_true, not_true_eq_false, false_implies, true_implies, implies_true, forall_const, Nat.not_lt_zero, ab_row_eq, ab_row_ne, ab_up_i, ab_up_o, pk_us, pk_un, ab_row_row]
      exact ⟨L2, a3, g2⟩
  have first : ∀ m i (J : Nat → Nat → Int32), i + m = 10 → (∀ c, c ≠ kx_likes_rows → J c = I c) → (∀ j, j < (rsL pb pa i).length → J kx_likes_rows j = nI ((rsL pb pa i).getD j 0)) →
      ∃ J' L', (∀ c, c ≠ kx_likes_rows → J' c = I c) ∧ lfr L' L kx_likes_matrix ∧ ab_E w (d + 1) mt_Likes_choices 4 [.ref kx_likes, .int (nI (rsL pb pa i).length), .int (nI i), .null, .null, .null, .null] [] (J, L, ab_RR, n, nc, ns) (.inl (some (.long (lI (pv A rs.length)))), (J', L', ab_RR, n, nc, ns)) := by
    intro m
    induction m with
    | zero =>
      intro i J hi hJ hr
      have e : i = 10 := by omega
      subst e
      rw [hrs] at hr ⊢
      obtain ⟨L', g1, g2⟩ := second rs.length 0 J L (by omega) hJ hr (fun _ _ => rfl) (fun i j _ hi _ hj => by
        show L kx_likes_matrix (rs.getD i 0 * 10 + rs.getD j 0) = _
        rw [hL _ _ (h10 _ (getD_mem hi)) (h10 _ (getD_mem hj)), DD_0, ← hA])
      rw [pv_0, lI_1] at g2
      refine ⟨J, L', hJ, g1, ?_⟩
      refine r_Likes_choices_4 hT _ _ (Nat.le_refl _) (Nat.le_refl _) ?_
      exact bb_t (by decide) g2
    | succ m ih =>
      intro i J hi hJ hr
      have hb' : J kx_likes_before i = nI (pb i) := by rw [hJ _ (by decide)]; exact hb i (by omega)
      have ha' : J kx_likes_behind i = nI (pa i) := by rw [hJ _ (by decide)]; exact ha i (by omega)
      have b1 := lb i (by omega)
      have b2 := la i (by omega)
      have hi10 : ¬ 10 ≤ i := by omega
      have hle := rsL_len (pb := pb) (pa := pa) i
      by_cases c : pb i = i ∧ pa i ≠ i
      · have e := rsL_t c.1 c.2
        obtain ⟨J', L', g1, g2, g3⟩ := ih (i + 1) (ab_up J kx_likes_rows (rsL pb pa i).length (nI i)) (by omega) (fun c hc => by rw [ab_up_o hc]; exact hJ c hc) (fun j hj => by
          rw [e] at hj ⊢
          rw [List.length_append, List.length_singleton] at hj
          rw [ab_up_i]
          by_cases ej : j = (rsL pb pa i).length
          · rw [ej, pk_us, getD_snoc_r]
          · rw [pk_un ej, getD_snoc_l (by omega)]; exact hr j (by omega))
        refine ⟨J', L', g1, g2, ?_⟩
        rw [e, List.length_append, List.length_singleton] at g3
        have c1 := c.1
        have c2 := c.2
        refine r_Likes_choices_4 hT _ _ (Nat.le_refl _) (Nat.le_refl _) ?_
        simp (disch := first | omega | decide) only [hi10, hb', ha', c1, c2, nl_add1, nl_add2, nl_mul1, nl_mul2, nl_sub1, nl_lt1, nl_lt2, nl_le1, nl_le2, nl_eq1, nl_eq2, nl_m1, nl_m2, nl_inT, nI_add, nI_mul, nI_leI, nI_ltI, nI_eq, nI_clamp, nl_bit, oI_n, oI_s, oI_m1, true_and, and_true, eq_self, Bool.false_eq_true, not_false_eq_true, not_true_eq_false, false_implies, true_implies, implies_true, forall_const, Nat.not_lt_zero, ab_row_eq, ab_row_ne, ab_up_i, ab_up_o, pk_us, pk_un, ab_row_row]
        exact g3
      · have e := rsL_f (pb := pb) (pa := pa) c
        obtain ⟨J', L', g1, g2, g3⟩ := ih (i + 1) J (by omega) hJ (fun j hj => by rw [e] at hj ⊢; exact hr j hj)
        refine ⟨J', L', g1, g2, ?_⟩
        rw [e] at g3
        refine r_Likes_choices_4 hT _ _ (Nat.le_refl _) (Nat.le_refl _) ?_
        simp (disch := first | omega | decide) only [hi10, hb', ha', nl_add1, nl_add2, nl_mul1, nl_mul2, nl_sub1, nl_lt1, nl_lt2, nl_le1, nl_le2, nl_eq1, nl_eq2, nl_m1, nl_m2, nl_inT, nI_add, nI_mul, nI_leI, nI_ltI, nI_eq, nI_clamp, nl_bit, oI_n, oI_s, oI_m1, true_and, and_true, eq_self, Bool.false_eq_true, not_false_eq_true, not_true_eq_false, false_implies, true_implies, implies_true, forall_const, Nat.not_lt_zero, ab_row_eq, ab_row_ne, ab_up_i, ab_up_o, pk_us, pk_un, ab_row_row]
        exact ⟨fun _ => g3, fun h => ⟨fun _ => g3, fun h' => absurd ⟨h, h'⟩ c⟩⟩
  obtain ⟨J', L', g1, g2, g3⟩ := first 10 0 I (by omega) (fun _ _ => rfl) (fun j hj => absurd hj (Nat.not_lt_zero j))
  refine ⟨J', L', g1, g2, ?_⟩
  refine ab_C_of (by decide) rfl (Nat.le_of_ble_eq_true rfl) hT ?_
  refine r_Likes_choices_0 hT (Nat.le_refl _) (Nat.le_refl _) ?_
  exact g3
end KLI
