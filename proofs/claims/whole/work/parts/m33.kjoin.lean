/-! JOINED: the class -/
section KJO
variable {w : ab_Wd} {d n nc ns : Nat} {I : Nat → Nat → Int32} {L : Nat → Nat → Int64}
variable {S N : Nat} {sd : Nat → Bool} {e1 e2 pr fm : Nat → Nat} {l : List Nat}
/-- what lies in the cells of the roads -/
def rdS (J : Nat → Nat → Int32) (S : Nat) (ds : Nat → Nat → Nat) : Prop := J kx_roads 0 = nI S ∧ ∀ x y, x < S → y < S → J kx_roads_lengths (x * 10 + y) = nI (ds x y)
theorem rdS_fr {J K : Nat → Nat → Int32} {ds : Nat → Nat → Nat} (h : rdS J S ds) (g : ∀ c, c ≠ kx_roads_near → K c = J c) : rdS K S ds := ⟨by rw [g _ (by decide)]; exact h.1, fun x y hx hy => by rw [g _ (by decide)]; exact h.2 x y hx hy⟩
theorem k_nearest (hT : w.1.stackTraces = false) {f : Nat → Nat} {x : Int32} {Lf : Nat → Bool} (hS : S ≤ 10) (h0 : I kx_roads 0 = nI S) (hf : ∀ z, z < S → I kx_roads_near z = nI (f z) ∧ f z ≤ 1000000) (hx : ∀ z, z < S → bt x z = Lf z) :
    ∃ o : Option Nat, (o = none → ∀ z, z < S → Lf z = false) ∧ (∀ q, o = some q → q < S ∧ Lf q = true ∧ ∀ z, z < S → Lf z = true → f q ≤ f z) ∧ ab_P w d mt_Roads_nearest [.ref kx_roads, .int x] I L n nc ns (oI o) := by
  have loop : ∀ m i (o : Option Nat), i + m = S → (o = none → ∀ z, z < i → Lf z = false) → (∀ q, o = some q → q < i ∧ Lf q = true ∧ ∀ z, z < i → Lf z = true → f q ≤ f z) →
      ∃ o' : Option Nat, (o' = none → ∀ z, z < S → Lf z = false) ∧ (∀ q, o' = some q → q < S ∧ Lf q = true ∧ ∀ z, z < S → Lf z = true → f q ≤ f z) ∧ ab_E w d mt_Roads_nearest 4 [.ref kx_roads, .int x, .int (oI o), .int (nI i), .null] [] (I, L, ab_RR, n, nc, ns) (.inl (some (.int (oI o'))), (I, L, ab_RR, n, nc, ns)) := by
    intro m
    induction m with
    | zero =>
      intro i o hi h1 h2
      have e : i = S := by omega
      subst e
      refine ⟨o, h1, h2, ?_⟩
      refine r_Roads_nearest_4 hT _ _ _ (Nat.le_refl _) (Nat.le_refl _) ?_
      refine bb_t ?_ rfl
      rw [h0]; exact nI_le (Nat.le_refl _) (by omega)
    | succ m ih =>
      intro i o hi h1 h2
      have hiS : ¬ S ≤ i := by omega
      have hb := hx i (by omega)
      obtain ⟨n1, l1⟩ := hf i (by omega)
      cases o with
      | none =>
        cases hL : Lf i with
        | true =>
          obtain ⟨o', g1, g2, g3⟩ := ih (i + 1) (some i) (by omega) (fun h => by cases h) (fun q e => by
            cases e
            refine ⟨by omega, hL, fun z hz hLz => ?_⟩
            by_cases e : z = i
            · rw [e]; exact Nat.le_refl _
            · rw [h1 rfl z (by omega)] at hLz; cases hLz)
          refine ⟨o', g1, g2, ?_⟩
          rw [hL] at hb
          refine r_Roads_nearest_4 hT _ _ _ (Nat.le_refl _) (Nat.le_refl _) ?_
          simp (disch := first | omega | decide) only [h0, hiS, oI, hb, nl_add1, nl_add2, nl_mul1, nl_mul2, nl_sub1, nl_lt1, nl_lt2, nl_le1, nl_le2, nl_eq1, nl_eq2, nl_m1, nl_m2, nl_inT, nI_add, nI_mul, nI_leI, nI_ltI, nI_eq, nI_clamp, nl_bit, oI_n, oI_s, oI_m1, true_and, and_true, eq_self, Bool.false_eq_true, not_false_eq_true, not_true_eq_false, false_implies, true_implies, implies_true, forall_const, Nat.not_lt_zero, ab_row_eq, ab_row_ne, ab_up_i, ab_up_o, pk_us, pk_un, ab_row_row]
          exact g3
        | false =>
          obtain ⟨o', g1, g2, g3⟩ := ih (i + 1) none (by omega) (fun _ z hz => by
            by_cases e : z = i
            · rw [e]; exact hL
            · exact h1 rfl z (by omega)) (fun q e => by cases e)
          refine ⟨o', g1, g2, ?_⟩
          rw [hL] at hb
          refine r_Roads_nearest_4 hT _ _ _ (Nat.le_refl _) (Nat.le_refl _) ?_
          simp (disch := first | omega | decide) only [h0, hiS, oI, hb, nl_add1, nl_add2, nl_mul1, nl_mul2, nl_sub1, nl_lt1, nl_lt2, nl_le1, nl_le2, nl_eq1, nl_eq2, nl_m1, nl_m2, nl_inT, nI_add, nI_mul, nI_leI, nI_ltI, nI_eq, nI_clamp, nl_bit, oI_n, oI_s, oI_m1, true_and, and_true, eq_self, Bool.false_eq_true, not_false_eq_true, not_true_eq_false, false_implies, true_implies, implies_true, forall_const, Nat.not_lt_zero, ab_row_eq, ab_row_ne, ab_up_i, ab_up_o, pk_us, pk_un, ab_row_row]
          exact g3
      | some q =>
        obtain ⟨q1, q2, q3⟩ := h2 q rfl
        obtain ⟨n2, l2⟩ := hf q (by omega)
        cases hL : Lf i with
        | false =>
          obtain ⟨o', g1, g2, g3⟩ := ih (i + 1) (some q) (by omega) (fun h => by cases h) (fun q' e => by
            cases e
            refine ⟨by omega, q2, fun z hz hLz => ?_⟩
            by_cases e : z = i
            · rw [e, hL] at hLz; cases hLz
            · exact q3 z (by omega) hLz)
          refine ⟨o', g1, g2, ?_⟩
          rw [hL] at hb
          refine r_Roads_nearest_4 hT _ _ _ (Nat.le_refl _) (Nat.le_refl _) ?_
          simp (disch := first | omega | decide) only [h0, hiS, oI, hb, n1, n2, nl_add1, nl_add2, nl_mul1, nl_mul2, nl_sub1, nl_lt1, nl_lt2, nl_le1, nl_le2, nl_eq1, nl_eq2, nl_m1, nl_m2, nl_inT, nI_add, nI_mul, nI_leI, nI_ltI, nI_eq, nI_clamp, nl_bit, oI_n, oI_s, oI_m1, true_and, and_true, eq_self, Bool.false_eq_true, not_false_eq_true, not_true_eq_false, false_implies, true_implies, implies_true, forall_const, Nat.not_lt_zero, ab_row_eq, ab_row_ne, ab_up_i, ab_up_o, pk_us, pk_un, ab_row_row]
          exact ⟨fun _ => g3, fun _ => g3⟩
        | true =>
          rw [hL] at hb
          by_cases hc : f q ≤ f i
          · obtain ⟨o', g1, g2, g3⟩ := ih (i + 1) (some q) (by omega) (fun h => by cases h) (fun q' e => by
              cases e
              refine ⟨by omega, q2, fun z hz hLz => ?_⟩
              by_cases e : z = i
              · rw [e]; exact hc
              · exact q3 z (by omega) hLz)
            refine ⟨o', g1, g2, ?_⟩
            refine r_Roads_nearest_4 hT _ _ _ (Nat.le_refl _) (Nat.le_refl _) ?_
            simp (disch := first | omega | decide) only [h0, hiS, oI, hb, n1, n2, hc, nl_add1, nl_add2, nl_mul1, nl_mul2, nl_sub1, nl_lt1, nl_lt2, nl_le1, nl_le2, nl_eq1, nl_eq2, nl_m1, nl_m2, nl_inT, nI_add, nI_mul, nI_leI, nI_ltI, nI_eq, nI_clamp, nl_bit, oI_n, oI_s, oI_m1, true_and, and_true, eq_self, Bool.false_eq_true, not_false_eq_true, not_true_eq_false, false_implies, true_implies, implies_true, forall_const, Nat.not_lt_zero, ab_row_eq, ab_row_ne, ab_up_i, ab_up_o, pk_us, pk_un, ab_row_row]
            exact g3
          · obtain ⟨o', g1, g2, g3⟩ := ih (i + 1) (some i) (by omega) (fun h => by cases h) (fun q' e => by
              cases e
              refine ⟨by omega, hL, fun z hz hLz => ?_⟩
              by_cases e : z = i
              · rw [e]; exact Nat.le_refl _
              · have := q3 z (by omega) hLz; omega)
            refine ⟨o', g1, g2, ?_⟩
            refine r_Roads_nearest_4 hT _ _ _ (Nat.le_refl _) (Nat.le_refl _) ?_
            simp (disch := first | omega | decide) only [h0, hiS, oI, hb, n1, n2, hc, nl_add1, nl_add2, nl_mul1, nl_mul2, nl_sub1, nl_lt1, nl_lt2, nl_le1, nl_le2, nl_eq1, nl_eq2, nl_m1, nl_m2, nl_inT, nI_add, nI_mul, nI_leI, nI_ltI, nI_eq, nI_clamp, nl_bit, oI_n, oI_s, oI_m1, true_and, and_true, eq_self, Bool.false_eq_true, not_false_eq_true, not_true_eq_false, false_implies, true_implies, implies_true, forall_const, Nat.not_lt_zero, ab_row_eq, ab_row_ne, ab_up_i, ab_up_o, pk_us, pk_un, ab_row_row]
            exact g3
  obtain ⟨o', g1, g2, g3⟩ := loop S 0 none (by omega) (fun _ z hz => absurd hz (Nat.not_lt_zero z)) (fun q e => by cases e)
  refine ⟨o', g1, g2, ?_⟩
  refine ab_C_of (by decide) rfl (Nat.le_of_ble_eq_true rfl) hT ?_
  refine r_Roads_nearest_0 hT _ (Nat.le_refl _) (Nat.le_refl _) ?_
  exact g3
/-- what the growing tree still costs -/
def spR (ds : Nat → Nat → Nat) (In L : Nat → Prop) (R : Nat) : Prop := (∀ F : List Nat, (∀ k ∈ F, (In (cE1 k) ∨ L (cE1 k)) ∧ (In (cE2 k) ∨ L (cE2 k))) → (∀ x, L x → ∃ y, In y ∧ cn cE1 cE2 (fun k => k ∈ F) x y) → R ≤ wtF ds F) ∧ ∀ r c, AT ds r In c → AT ds r (fun x => In x ∨ L x) (c + R)
theorem k_spread (hT : w.1.stackTraces = false) {ds : Nat → Nat → Nat} {V : Nat → Bool} {x : Int32} (hS : S ≤ 10) (hr : rdS I S ds) (hsy : ∀ x y, ds x y = ds y x) (hds : ∀ x y, x < S → y < S → ds x y ≤ 1000000) (hx : ∀ z, z < 32 → bt x z = V z) (hV : ∀ z, V z = true → z < S) (hne : ∃ z, V z = true) :
    ∃ (J : Nat → Nat → Int32) (C p0 : Nat), (∀ c, c ≠ kx_roads_near → J c = I c) ∧ C ≤ 10000000 ∧ V p0 = true ∧ AT ds p0 (fun x => V x = true) C ∧ (∀ F, spF (fun x => V x = true) F → C ≤ wtF ds F) ∧ ab_PU w (d + 1) mt_Roads_spread [.ref kx_roads, .int x] I L n nc ns (nI C) J := by
  -- the loop, at its head with q just chosen
  have loop : ∀ (m i c q : Nat) (x' : Int32) (In Lf : Nat → Bool) (f : Nat → Nat) (J : Nat → Nat → Int32), fa_cnt Lf 10 ≤ m → i + m ≤ 9 → c ≤ 1000000 * i → (∀ k, k ≠ kx_roads_near → J k = I k) → (∀ z, z < S → J kx_roads_near z = nI (f z) ∧ f z ≤ 1000000) → (∀ z, z < 32 → bt x' z = (Lf z || decide (z = q))) → (∀ z, Lf z = true → z < S) → Lf q = false → In q = true → q < S → (∀ z, In z = true → Lf z = false ∧ z < S) → (∀ z y, z < S → In y = true → y ≠ q → f z ≤ ds y z) → (∀ z, z < S → f z = 1000000 ∨ ∃ y, In y = true ∧ f z = ds y z) →
      ∃ (J' : Nat → Nat → Int32) (R : Nat), (∀ k, k ≠ kx_roads_near → J' k = I k) ∧ R ≤ 1000000 * m ∧ spR ds (fun x => In x = true) (fun x => Lf x = true) R ∧ ab_E w (d + 1) mt_Roads_spread 38 [.ref kx_roads, .int x, .int (x'), .int (nI c), .int (nI q), .int (nI i), .null] [] (J, L, ab_RR, n, nc, ns) (.inl (some (.int (nI (c + R)))), (J', L, ab_RR, n, nc, ns)) := by
    intro m
    induction m with
    | zero =>
      intro i c q x' In Lf f J hm him hc hJ hf hx' hL hLq hIq hqS hIn hn1 hn2
      have hL0 : ∀ z, Lf z = false := fun z => by
        cases hh : Lf z with
        | false => rfl
        | true => have := cnt_pos (p := Lf) (n := 10) (by have := hL z hh; omega) hh; omega
      have z0 : ∀ {K : Nat → Nat → Int32}, (∀ k, k ≠ kx_roads_near → K k = I k) → K kx_roads 0 = nI S := fun {K} h => by rw [h _ (by decide)]; exact hr.1
      have hxq : ∀ z, z < S → bt (x' &&& (((1 : Int32) <<< (nI q &&& 31)) ^^^ (-1))) z = false := fun z hz => by
        rw [b_and, ab_bnot _ (by omega), ab_sh1 (by omega) (by omega), hx' z (by omega), hL0 z]; cases decide (z = q) <;> rfl
      have inner : ∀ r t (K : Nat → Nat → Int32) (g : Nat → Nat), t + r = S → (∀ k, k ≠ kx_roads_near → K k = I k) → (∀ z, z < S → K kx_roads_near z = nI (g z) ∧ g z ≤ 1000000) → ∃ J', (∀ k, k ≠ kx_roads_near → J' k = I k) ∧ ab_E w (d + 1) mt_Roads_spread 63 [.ref kx_roads, .int x, .int (x' &&& (((1 : Int32) <<< (nI q &&& 31)) ^^^ (-1))), .int (nI c), .int (nI q), .int (nI i), .int (nI t)] [] (K, L, ab_RR, n, nc, ns) (.inl (some (.int (nI (c + 0)))), (J', L, ab_RR, n, nc, ns)) := by
        intro r
        induction r with
        | zero =>
          intro t K g ht hK hg
          have e : t = S := by omega
          subst e
          obtain ⟨o, o1, o2, o3⟩ := k_nearest (w := w) (d := d) (n := n) (nc := nc) (ns := ns) (L := L) (I := K) (Lf := fun _ => false) (f := g) hT hS (z0 hK) hg hxq
          cases o with
          | some q' => have := (o2 q' rfl).2.1; cases this
          | none =>
            refine ⟨K, hK, ?_⟩
            have z : ab_E w (d + 1) mt_Roads_spread 38 [.ref kx_roads, .int x, .int (x' &&& (((1 : Int32) <<< (nI q &&& 31)) ^^^ (-1))), .int (nI (c + 0)), .int (-1), .int (nI (i + 1)), .null] [] (K, L, ab_RR, n, nc, ns) (.inl (some (.int (nI (c + 0)))), (K, L, ab_RR, n, nc, ns)) := by
              refine r_Roads_spread_38 hT _ _ _ _ _ (Nat.le_refl _) (Nat.le_refl _) ?_
              exact ⟨fun _ => rfl, fun _ => ⟨fun _ => rfl, fun h => absurd rfl h⟩⟩
            refine r_Roads_spread_63 hT _ _ _ _ _ _ (Nat.le_refl _) (Nat.le_refl _) ?_
            refine bb_t (by rw [z0 hK]; exact nI_le (Nat.le_refl _) (by omega)) ⟨-1, o3, fun h => absurd rfl h, fun _ => ?_⟩
            rw [nI_1, nl_add1]; exact z
        | succ r ih =>
          intro t K g ht hK hg
          have htS : ¬ t + r + 1 ≤ t := by omega
          have hz := z0 hK
          have hd := hds q t hqS (by omega)
          have hl : K kx_roads_lengths (q * 10 + t) = nI (ds q t) := by rw [hK _ (by decide)]; exact hr.2 q t hqS (by omega)
          obtain ⟨n1, l1⟩ := hg t (by omega)
          obtain ⟨J', g1, g2⟩ := ih (t + 1) (ab_up K kx_roads_near t (nI (min (g t) (ds q t)))) (fun z => if z = t then min (g t) (ds q t) else g z) (by omega) (fun k hk => by rw [ab_up_o hk]; exact hK k hk) (fun z hz => by
            rw [ab_up_i]
            by_cases e : z = t
            · rw [e, pk_us, if_pos rfl]; exact ⟨rfl, by have := Nat.min_le_left (g t) (ds q t); omega⟩
            · rw [pk_un e, if_neg e]; exact hg z hz)
          refine ⟨J', g1, ?_⟩
          have hSt : ¬ S ≤ t := by omega
          refine r_Roads_spread_63 hT _ _ _ _ _ _ (Nat.le_refl _) (Nat.le_refl _) ?_
          simp (disch := first | omega | decide) only [hz, hSt, n1, hl, ab_min_nI, nl_add1, nl_add2, nl_mul1, nl_mul2, nl_sub1, nl_lt1, nl_lt2, nl_le1, nl_le2, nl_eq1, nl_eq2, nl_m1, nl_m2, nl_inT, nI_add, nI_mul, nI_leI, nI_ltI, nI_eq, nI_clamp, nl_bit, oI_n, oI_s, oI_m1, true_and, and_true, eq_self, Bool.false_eq_true, not_false_eq_true, not_true_eq_false, false_implies, true_implies, implies_true, forall_const, Nat.not_lt_zero, ab_row_eq, ab_row_ne, ab_up_i, ab_up_o, pk_us, pk_un, ab_row_row]
          exact g2
      obtain ⟨J', g1, g2⟩ := inner S 0 J f (by omega) hJ hf
      refine ⟨J', 0, g1, Nat.zero_le _, ⟨fun F _ _ => Nat.zero_le _, fun r c h => AT_congr (fun z => ⟨Or.inl, fun h => h.elim id (fun h => absurd ((hL0 z).symm.trans h) (by decide))⟩) h⟩, ?_⟩
      have hi10 : ¬ 10 ≤ i := by omega
      refine r_Roads_spread_38 hT _ _ _ _ _ (Nat.le_refl _) (Nat.le_refl _) ?_
      simp (disch := first | omega | decide) only [hi10, nl_add1, nl_add2, nl_mul1, nl_mul2, nl_sub1, nl_lt1, nl_lt2, nl_le1, nl_le2, nl_eq1, nl_eq2, nl_m1, nl_m2, nl_inT, nI_add, nI_mul, nI_leI, nI_ltI, nI_eq, nI_clamp, nl_bit, oI_n, oI_s, oI_m1, true_and, and_true, eq_self, Bool.false_eq_true, not_false_eq_true, not_true_eq_false, false_implies, true_implies, implies_true, forall_const, Nat.not_lt_zero, ab_row_eq, ab_row_ne, ab_up_i, ab_up_o, pk_us, pk_un, ab_row_row]
      exact g2
    | succ m ihm =>
      intro i c q x' In Lf f J hm him hc hJ hf hx' hL hLq hIq hqS hIn hn1 hn2
      have z0 : ∀ {K : Nat → Nat → Int32}, (∀ k, k ≠ kx_roads_near → K k = I k) → K kx_roads 0 = nI S := fun {K} h => by rw [h _ (by decide)]; exact hr.1
      have hxq : ∀ z, z < 32 → bt (x' &&& (((1 : Int32) <<< (nI q &&& 31)) ^^^ (-1))) z = Lf z := fun z hz => by
        rw [b_and, ab_bnot _ hz, ab_sh1 (by omega) hz, hx' z hz]
        by_cases e : z = q
        · rw [e, hLq]; simp
        · simp [e]
      have inner : ∀ r t (K : Nat → Nat → Int32) (g : Nat → Nat), t + r = S → (∀ k, k ≠ kx_roads_near → K k = I k) → (∀ z, z < S → K kx_roads_near z = nI (g z) ∧ g z ≤ 1000000) → (∀ z, z < t → g z = min (f z) (ds q z)) → (∀ z, t ≤ z → z < S → g z = f z) → ∃ (J' : Nat → Nat → Int32) (R : Nat), (∀ k, k ≠ kx_roads_near → J' k = I k) ∧ R ≤ 1000000 * (m + 1) ∧ spR ds (fun x => In x = true) (fun x => Lf x = true) R ∧ ab_E w (d + 1) mt_Roads_spread 63 [.ref kx_roads, .int x, .int (x' &&& (((1 : Int32) <<< (nI q &&& 31)) ^^^ (-1))), .int (nI c), .int (nI q), .int (nI i), .int (nI t)] [] (K, L, ab_RR, n, nc, ns) (.inl (some (.int (nI (c + R)))), (J', L, ab_RR, n, nc, ns)) := by
        intro r
        induction r with
        | zero =>
          intro t K g ht hK hg hg1 hg2
          have e : t = S := by omega
          subst e
          obtain ⟨o, o1, o2, o3⟩ := k_nearest (w := w) (d := d) (n := n) (nc := nc) (ns := ns) (L := L) (I := K) (Lf := Lf) (f := g) hT hS (z0 hK) hg (fun z hz => hxq z (by omega))
          -- what near is now
          have m1 : ∀ z y, z < t → In y = true → g z ≤ ds y z := fun z y hz hy => by
            rw [hg1 z hz]
            by_cases e : y = q
            · rw [e]; exact Nat.min_le_right _ _
            · exact Nat.le_trans (Nat.min_le_left _ _) (hn1 z y hz hy e)
          have m2 : ∀ z, z < t → ∃ y, In y = true ∧ g z = ds y z := fun z hz => by
            rw [hg1 z hz]
            by_cases e : f z ≤ ds q z
            · rw [Nat.min_eq_left e]
              rcases hn2 z hz with h | h
              · have := hds q z hqS hz
                exact ⟨q, hIq, by omega⟩
              · exact h
            · rw [Nat.min_eq_right (by omega)]; exact ⟨q, hIq, rfl⟩
          cases o with
          | none =>
            have hL0 : ∀ z, Lf z = false := fun z => by
              cases hh : Lf z with
              | false => rfl
              | true => rw [o1 rfl z (hL z hh)] at hh; cases hh
            refine ⟨K, 0, hK, Nat.zero_le _, ⟨fun F _ _ => Nat.zero_le _, fun r c h => AT_congr (fun z => ⟨Or.inl, fun h => h.elim id (fun h => absurd ((hL0 z).symm.trans h) (by decide))⟩) h⟩, ?_⟩
            have z : ab_E w (d + 1) mt_Roads_spread 38 [.ref kx_roads, .int x, .int (x' &&& (((1 : Int32) <<< (nI q &&& 31)) ^^^ (-1))), .int (nI (c + 0)), .int (-1), .int (nI (i + 1)), .null] [] (K, L, ab_RR, n, nc, ns) (.inl (some (.int (nI (c + 0)))), (K, L, ab_RR, n, nc, ns)) := by
              refine r_Roads_spread_38 hT _ _ _ _ _ (Nat.le_refl _) (Nat.le_refl _) ?_
              exact ⟨fun _ => rfl, fun _ => ⟨fun _ => rfl, fun h => absurd rfl h⟩⟩
            refine r_Roads_spread_63 hT _ _ _ _ _ _ (Nat.le_refl _) (Nat.le_refl _) ?_
            refine bb_t (by rw [z0 hK]; exact nI_le (Nat.le_refl _) (by omega)) ⟨-1, o3, fun h => absurd rfl h, fun _ => ?_⟩
            rw [nI_1, nl_add1]; exact z
          | some q' =>
            obtain ⟨o4, o5, o6⟩ := o2 q' rfl
            obtain ⟨gn, gl⟩ := hg q' o4
            have hq' : In q' = false := by
              cases hh : In q' with
              | false => rfl
              | true => rw [(hIn q' hh).1] at o5; cases o5
            have hcnt : fa_cnt (fun z => Lf z && !decide (z = q')) 10 ≤ m := by
              have := cnt_lt (p := fun z => Lf z && !decide (z = q')) (q := Lf) (a := q') (n := 10) (fun k _ hk => by simp at hk; exact hk.1) (by omega) o5 (by simp)
              omega
            obtain ⟨J', R, g1, g2, g3, g4⟩ := ihm (i + 1) (c + g q') q' (x' &&& (((1 : Int32) <<< (nI q &&& 31)) ^^^ (-1))) (fun z => In z || decide (z = q')) (fun z => Lf z && !decide (z = q')) g K hcnt (by omega) (by omega) hK hg (fun z hz => by
                rw [hxq z hz]
                by_cases e : z = q'
                · rw [e, o5]; simp
                · simp [e]) (fun z hz => by simp at hz; exact hL z hz.1) (by simp) (by simp) o4 (fun z hz => by
                simp at hz
                rcases hz with hz | hz
                · obtain ⟨u1, u2⟩ := hIn z hz
                  exact ⟨by simp [u1], u2⟩
                · rw [hz]; exact ⟨by simp, o4⟩) (fun z y hz hy hyq => by
                simp at hy
                exact m1 z y hz (hy.resolve_right hyq)) (fun z hz => by
                obtain ⟨y, h1, h2⟩ := m2 z hz
                exact Or.inr ⟨y, by simp [h1], h2⟩)
            refine ⟨J', g q' + R, g1, by omega, ⟨fun F hF hcF => ?_, fun r c' hA => ?_⟩, ?_⟩
            · refine prim_st (In := fun x => In x = true) (L := fun x => Lf x = true) (f := g) hsy o5 (fun x hx hLx => by rw [(hIn x hx).1] at hLx; cases hLx) (fun x hx => o6 x (hL x hx) hx) (fun x y hx hy => m1 x y (hL x hx) hy) hF hcF (fun G h1 h2 => ?_)
              refine g3.1 G (fun k hk => ?_) (fun x hx => ?_)
              · have := h1 k hk
                simp only [Bool.or_eq_true, Bool.and_eq_true, decide_eq_true_iff, Bool.not_eq_true', decide_eq_false_iff_not]
                exact this
              · simp only [Bool.and_eq_true, Bool.not_eq_true', decide_eq_false_iff_not] at hx
                obtain ⟨y, hy1, hy2⟩ := h2 x hx
                exact ⟨y, by simpa using hy1, hy2⟩
            · obtain ⟨y, h1, h2⟩ := m2 q' o4
              have a1 := AT_s hA (x := q') (y := y) (by rw [hq']; decide) (by omega) h1
              have a2 := g3.2 r (c' + ds y q') (AT_congr (fun z => by simp) a1)
              rw [show c' + (g q' + R) = c' + ds y q' + R by omega]
              refine AT_congr (fun z => ?_) a2
              simp only [Bool.or_eq_true, Bool.and_eq_true, decide_eq_true_iff, Bool.not_eq_true', decide_eq_false_iff_not]
              constructor
              · rintro ((h | h) | h)
                · exact Or.inl h
                · rw [h]; exact Or.inr o5
                · exact Or.inr h.1
              · rintro (h | h)
                · exact Or.inl (Or.inl h)
                · by_cases e : z = q'
                  · exact Or.inl (Or.inr e)
                  · exact Or.inr ⟨h, e⟩
            · rw [show c + (g q' + R) = c + g q' + R by omega]
              refine r_Roads_spread_63 hT _ _ _ _ _ _ (Nat.le_refl _) (Nat.le_refl _) ?_
              refine bb_t (by rw [z0 hK]; exact nI_le (Nat.le_refl _) (by omega)) ⟨nI q', o3, fun _ => ⟨vp_in_nI (by omega) (by omega), ?_⟩, fun e => absurd e (nI_m1 (by omega))⟩
              rw [nI_clamp (by omega), gn, nI_1, nI_add]; exact g4
        | succ r ih =>
          intro t K g ht hK hg hg1 hg2
          have hz := z0 hK
          have hd := hds q t hqS (by omega)
          have hl : K kx_roads_lengths (q * 10 + t) = nI (ds q t) := by rw [hK _ (by decide)]; exact hr.2 q t hqS (by omega)
          obtain ⟨n1, l1⟩ := hg t (by omega)
          obtain ⟨J', R, g1, g2, g3, g4⟩ := ih (t + 1) (ab_up K kx_roads_near t (nI (min (g t) (ds q t)))) (fun z => if z = t then min (g t) (ds q t) else g z) (by omega) (fun k hk => by rw [ab_up_o hk]; exact hK k hk) (fun z hz => by
            rw [ab_up_i]
            by_cases e : z = t
            · rw [e, pk_us, if_pos rfl]; exact ⟨rfl, by have := Nat.min_le_left (g t) (ds q t); omega⟩
            · rw [pk_un e, if_neg e]; exact hg z hz) (fun z hz => by
            show (if z = t then min (g t) (ds q t) else g z) = _
            by_cases e : z = t
            · rw [if_pos e, e, hg2 t (Nat.le_refl _) (by omega)]
            · rw [if_neg e]; exact hg1 z (by omega)) (fun z h1 h2 => by
            show (if z = t then min (g t) (ds q t) else g z) = _
            rw [if_neg (by omega)]; exact hg2 z (by omega) h2)
          refine ⟨J', R, g1, g2, g3, ?_⟩
          have hSt : ¬ S ≤ t := by omega
          refine r_Roads_spread_63 hT _ _ _ _ _ _ (Nat.le_refl _) (Nat.le_refl _) ?_
          simp (disch := first | omega | decide) only [hz, hSt, n1, hl, ab_min_nI, nl_add1, nl_add2, nl_mul1, nl_mul2, nl_sub1, nl_lt1, nl_lt2, nl_le1, nl_le2, nl_eq1, nl_eq2, nl_m1, nl_m2, nl_inT, nI_add, nI_mul, nI_leI, nI_ltI, nI_eq, nI_clamp, nl_bit, oI_n, oI_s, oI_m1, true_and, and_true, eq_self, Bool.false_eq_true, not_false_eq_true, not_true_eq_false, false_implies, true_implies, implies_true, forall_const, Nat.not_lt_zero, ab_row_eq, ab_row_ne, ab_up_i, ab_up_o, pk_us, pk_un, ab_row_row]
          exact g4
      obtain ⟨J', R, g1, g2, g3, g4⟩ := inner S 0 J f (by omega) hJ hf (fun z hz => absurd hz (Nat.not_lt_zero z)) (fun z _ _ => rfl)
      refine ⟨J', R, g1, g2, g3, ?_⟩
      have hi10 : ¬ 10 ≤ i := by omega
      refine r_Roads_spread_38 hT _ _ _ _ _ (Nat.le_refl _) (Nat.le_refl _) ?_
      simp (disch := first | omega | decide) only [hi10, nl_add1, nl_add2, nl_mul1, nl_mul2, nl_sub1, nl_lt1, nl_lt2, nl_le1, nl_le2, nl_eq1, nl_eq2, nl_m1, nl_m2, nl_inT, nI_add, nI_mul, nI_leI, nI_ltI, nI_eq, nI_clamp, nl_bit, oI_n, oI_s, oI_m1, true_and, and_true, eq_self, Bool.false_eq_true, not_false_eq_true, not_true_eq_false, false_implies, true_implies, implies_true, forall_const, Nat.not_lt_zero, ab_row_eq, ab_row_ne, ab_up_i, ab_up_o, pk_us, pk_un, ab_row_row]
      exact g4
  have start : ∀ m i (J : Nat → Nat → Int32), i + m = S → (∀ k, k ≠ kx_roads_near → J k = I k) → (∀ z, z < i → J kx_roads_near z = 1000000) →
      ∃ (J' : Nat → Nat → Int32) (C p0 : Nat), (∀ c, c ≠ kx_roads_near → J' c = I c) ∧ C ≤ 10000000 ∧ V p0 = true ∧ AT ds p0 (fun x => V x = true) C ∧ (∀ F, spF (fun x => V x = true) F → C ≤ wtF ds F) ∧ ab_E w (d + 1) mt_Roads_spread 2 [.ref kx_roads, .int x, .int (nI i), .null, .null, .null, .null] [] (J, L, ab_RR, n, nc, ns) (.inl (some (.int (nI C))), (J', L, ab_RR, n, nc, ns)) := by
    intro m
    induction m with
    | zero =>
      intro i J hi hJ hf
      have e : i = S := by omega
      subst e
      have z0 : J kx_roads 0 = nI i := by rw [hJ _ (by decide)]; exact hr.1
      obtain ⟨o, o1, o2, o3⟩ := k_nearest (w := w) (d := d) (n := n) (nc := nc) (ns := ns) (L := L) (I := J) (Lf := V) (f := fun _ => 1000000) hT hS z0 (fun z hz => ⟨by rw [hf z hz]; rfl, Nat.le_refl _⟩) (fun z hz => hx z (by omega))
      cases o with
      | none =>
        obtain ⟨z, hz⟩ := hne
        rw [o1 rfl z (hV z hz)] at hz; cases hz
      | some q =>
        obtain ⟨o4, o5, o6⟩ := o2 q rfl
        have hcnt : fa_cnt (fun z => V z && !decide (z = q)) 10 ≤ 9 := by
          have := cnt_lt (p := fun z => V z && !decide (z = q)) (q := fun _ => true) (a := q) (n := 10) (fun _ _ _ => rfl) (by omega) rfl (by simp)
          have e10 : fa_cnt (fun _ => true) 10 = 10 := by decide
          omega
        obtain ⟨J', R, g1, g2, g3, g4⟩ := loop 9 0 0 q x (fun z => decide (z = q)) (fun z => V z && !decide (z = q)) (fun _ => 1000000) J hcnt (by omega) (by omega) hJ (fun z hz => ⟨by rw [hf z hz]; rfl, Nat.le_refl _⟩) (fun z hz => by
            rw [hx z hz]
            by_cases e : z = q
            · rw [e, o5]; simp
            · simp [e]) (fun z hz => by simp at hz; exact hV z hz.1) (by simp) (by simp) o4 (fun z hz => by
            simp at hz; rw [hz]; exact ⟨by simp, o4⟩) (fun z y _ hy hyq => by simp at hy; exact absurd hy hyq) (fun z _ => Or.inl rfl)
        rw [Nat.zero_add] at g4
        have veq : ∀ z, ((decide (z = q) = true) ∨ (V z && !decide (z = q)) = true) ↔ V z = true := fun z => by
          by_cases e : z = q
          · rw [e]; simp [o5]
          · simp [e]
        refine ⟨J', R, q, g1, by omega, o5, ?_, fun F hF => ?_, ?_⟩
        · have := g3.2 q 0 (AT_congr (fun z => by simp) AT_0)
          rw [Nat.zero_add] at this
          exact AT_congr veq this
        · refine g3.1 F (fun k hk => ⟨(veq _).mpr (hF.1 k hk).1, (veq _).mpr (hF.1 k hk).2⟩) (fun y hy => ⟨q, by simp, hF.2 y q ?_ o5⟩)
          simp at hy; exact hy.1
        · refine r_Roads_spread_2 hT _ _ (Nat.le_refl _) (Nat.le_refl _) ?_
          refine bb_t (by rw [z0]; exact nI_le (Nat.le_refl _) (by omega)) ⟨nI q, o3, g4⟩
    | succ m ih =>
      intro i J hi hJ hf
      obtain ⟨J', C, p0, g1, g2, g3, g4, g5, g6⟩ := ih (i + 1) (ab_up J kx_roads_near i 1000000) (by omega) (fun k hk => by rw [ab_up_o hk]; exact hJ k hk) (fun z hz => by
        rw [ab_up_i]
        by_cases e : z = i
        · rw [e, pk_us]
        · rw [pk_un e]; exact hf z (by omega))
      refine ⟨J', C, p0, g1, g2, g3, g4, g5, ?_⟩
      have z0 : J kx_roads 0 = nI S := by rw [hJ _ (by decide)]; exact hr.1
      have hSi : ¬ S ≤ i := by omega
      refine r_Roads_spread_2 hT _ _ (Nat.le_refl _) (Nat.le_refl _) ?_
      simp (disch := first | omega | decide) only [z0, hSi, nl_add1, nl_add2, nl_mul1, nl_mul2, nl_sub1, nl_lt1, nl_lt2, nl_le1, nl_le2, nl_eq1, nl_eq2, nl_m1, nl_m2, nl_inT, nI_add, nI_mul, nI_leI, nI_ltI, nI_eq, nI_clamp, nl_bit, oI_n, oI_s, oI_m1, true_and, and_true, eq_self, Bool.false_eq_true, not_false_eq_true, not_true_eq_false, false_implies, true_implies, implies_true, forall_const, Nat.not_lt_zero, ab_row_eq, ab_row_ne, ab_up_i, ab_up_o, pk_us, pk_un, ab_row_row]
      exact g6
  obtain ⟨J', C, p0, g1, g2, g3, g4, g5, g6⟩ := start S 0 I (by omega) (fun _ _ => rfl) (fun z hz => absurd hz (Nat.not_lt_zero z))
  refine ⟨J', C, p0, g1, g2, g3, g4, g5, ?_⟩
  refine ab_C_of (by decide) rfl (Nat.le_of_ble_eq_true rfl) hT ?_
  refine r_Roads_spread_0 hT _ (Nat.le_refl _) (Nat.le_refl _) ?_
  exact g6
end KJO
