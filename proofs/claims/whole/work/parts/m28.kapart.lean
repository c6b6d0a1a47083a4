/-! APART: the class -/
section KAP
variable {w : ab_Wd} {d n nc ns : Nat} {I : Nat → Nat → Int32} {L : Nat → Nat → Int64}
variable {S N : Nat} {sd : Nat → Bool} {e1 e2 pr fm : Nat → Nat} {l : List Nat}
/-- a step from a site over a cable is open -/
def opn (e1 e2 : Nat → Nat) (g : Nat → Int) (k x y : Nat) : Prop := (x = e1 k ∧ y = e2 k ∧ g k < 1) ∨ (x = e2 k ∧ y = e1 k ∧ -1 < g k)
/-- the flow lies in the cells -/
def flI (J : Nat → Nat → Int32) (c : Nat) (g : Nat → Int) : Prop := ∀ k, k < 24 → J c k = iI (g k)
/-- what was come to, in that order -/
def bfQ (e1 e2 : Nat → Nat) (S : Nat) (E : Nat → Bool) (g : Nat → Int) (a : Nat) (Q : List Nat) (J : Nat → Nat → Int32) (x : Int32) : Prop :=
  Q.Nodup ∧ (∀ s ∈ Q, s < S) ∧ Q.getD 0 0 = a ∧ Q ≠ [] ∧ (∀ s, s < S → (bt x s = true ↔ s ∈ Q)) ∧ ∀ i, 0 < i → i < Q.length → ∃ k j, J kx_roads_reachedBy (Q.getD i 0) = nI k ∧ k < 24 ∧ E k = true ∧ j < i ∧ opn e1 e2 g k (Q.getD j 0) (Q.getD i 0)
/-- this cable leads no further -/
def nfu (e1 e2 : Nat → Nat) (E : Nat → Bool) (g : Nat → Int) (Q : List Nat) (k : Nat) : Prop := E k = true → ∀ x y, opn e1 e2 g k x y → x ∈ Q → y ∈ Q
theorem getD_inj {Q : List Nat} (h : Q.Nodup) {i j : Nat} (hi : i < Q.length) (hj : j < Q.length) (e : Q.getD i 0 = Q.getD j 0) : i = j := by
  rw [List.getD_eq_getElem?_getD, List.getElem?_eq_getElem hi, List.getD_eq_getElem?_getD, List.getElem?_eq_getElem hj] at e
  have e' : Q[i] = Q[j] := e
  rcases Nat.lt_trichotomy i j with g | g | g
  · exact absurd e' (List.pairwise_iff_getElem.mp h i j hi hj g)
  · exact g
  · exact absurd e'.symm (List.pairwise_iff_getElem.mp h j i hj hi g)
theorem iI_le1 {z : Int} (h : -1 ≤ z ∧ z ≤ 1) : (1 ≤ iI z ↔ ¬ z < 1) ∧ (iI z ≤ -1 ↔ ¬ -1 < z) := by
  rcases iI_1 h with e | e | e <;> subst e <;> decide
theorem bfQ_add {E : Nat → Bool} {g : Nat → Int} {a k y : Nat} {Q : List Nat} {J : Nat → Nat → Int32} {x : Int32} (h : bfQ e1 e2 S E g a Q J x) (hS : S ≤ 10) (hk : k < 24) (hE : E k = true) (hy : y < S) (hyQ : y ∉ Q) {z : Nat} (hz : z ∈ Q) (ho : opn e1 e2 g k z y) : bfQ e1 e2 S E g a (Q ++ [y]) (ab_up J kx_roads_reachedBy y (nI k)) (x ||| ((1 : Int32) <<< (nI y &&& 31))) := by
  obtain ⟨h1, h2, h3, h4, h5, h6⟩ := h
  have hl : 0 < Q.length := List.length_pos_iff.mpr h4
  refine ⟨?_, fun s hs => ?_, ?_, by simp, fun s hs => ?_, fun i hi hl' => ?_⟩
  · rw [List.nodup_append]
    exact ⟨h1, List.pairwise_singleton _ _, fun p hp c hc e => by rw [List.mem_singleton.mp hc] at e; exact hyQ (e ▸ hp)⟩
  · rcases List.mem_append.mp hs with hs | hs
    · exact h2 s hs
    · rw [List.mem_singleton.mp hs]; exact hy
  · rw [getD_snoc_l hl]; exact h3
  · rw [b_or, ab_sh1 (by omega) (by omega), Bool.or_eq_true, decide_eq_true_iff, h5 s hs, List.mem_append, List.mem_singleton]
  · rw [List.length_append, List.length_singleton] at hl'
    by_cases e : i = Q.length
    · subst e
      rw [getD_snoc_r, ab_up_i, pk_us]
      obtain ⟨j, hj, ej⟩ := List.getElem_of_mem hz
      refine ⟨k, j, rfl, hk, hE, hj, ?_⟩
      rw [getD_snoc_l hj, List.getD_eq_getElem?_getD, List.getElem?_eq_getElem hj, Option.getD_some, ej]
      exact ho
    · obtain ⟨k', j, g1, g2, g3, g4, g5⟩ := h6 i hi (by omega)
      have hne : Q.getD i 0 ≠ y := fun e' => hyQ (e' ▸ getD_mem (by omega))
      refine ⟨k', j, ?_, g2, g3, g4, ?_⟩
      · rw [getD_snoc_l (by omega), ab_up_i, pk_un hne]; exact g1
      · rw [getD_snoc_l (by omega), getD_snoc_l (by omega)]; exact g5
theorem k_reachOver (hT : w.1.stackTraces = false) (hc : kC I S N sd e1 e2 pr fm l) {g : Nat → Int} {a k : Nat} {Q : List Nat} {J : Nat → Nat → Int32} {x : Int32} (hJ : ∀ c, c ≠ kx_roads_reachedBy → c ≠ kx_roads_flow → J c = I c) (hg : ∀ k, -1 ≤ g k ∧ g k ≤ 1) (hf : flI J kx_roads_flow g) (hk : k < N) (h : bfQ e1 e2 S sd g a Q J x) :
    ∃ J' x', (∀ c, c ≠ kx_roads_reachedBy → J' c = J c) ∧ ((J' = J ∧ x' = x ∧ nfu e1 e2 sd g Q k) ∨ ∃ y, y ∉ Q ∧ y < S ∧ bfQ e1 e2 S sd g a (Q ++ [y]) J' x') ∧ ab_PU w (d + 1) mt_Roads_reachOver [.ref kx_roads, .ref kx_now_cables, .int (nI k), .int x] J L n nc ns x' J' := by
  obtain ⟨⟨p1, p2, p3, p4, p5, p6, p7, p8⟩, c2, c3, c4, c5, c6⟩ := hc
  obtain ⟨q1, q2, q3, q4, q5, q6⟩ := p8 k hk
  have hne := (c6 k hk).2.2.2
  rw [← hJ kx_now_cables_first (by decide) (by decide)] at q1
  rw [← hJ kx_now_cables_second (by decide) (by decide)] at q2
  have hsk := c4 k (by omega)
  rw [← hJ kx_now_cables (by decide) (by decide)] at hsk
  have fk := hf k (by omega)
  obtain ⟨f1, f2⟩ := iI_le1 (hg k)
  obtain ⟨h1, h2, h3, h4, h5, h6⟩ := h
  have h : bfQ e1 e2 S sd g a Q J x := ⟨h1, h2, h3, h4, h5, h6⟩
  have b1 := h5 _ q4
  have b2 := h5 _ q5
  by_cases hs : sd k = true
  · by_cases m1 : e1 k ∈ Q
    · by_cases m2 : e2 k ∈ Q
      · refine ⟨J, x, fun _ _ => rfl, Or.inl ⟨rfl, rfl, fun _ u v ho hu => ?_⟩, ?_⟩
        · rcases ho with ⟨-, e, -⟩ | ⟨-, e, -⟩
          · rw [e]; exact m2
          · rw [e]; exact m1
        · refine ab_C_of (by decide) rfl (Nat.le_of_ble_eq_true rfl) hT ?_
          refine r_Roads_reachOver_0 hT _ _ (Nat.le_refl _) (Nat.le_refl _) ?_
          simp (disch := first | omega | decide) only [hsk, hs, q1, q2, b1, b2, m1, m2, nl_add1, nl_add2, nl_mul1, nl_mul2, nl_sub1, nl_lt1, nl_lt2, nl_le1, nl_le2, nl_eq1, nl_eq2, nl_m1, nl_m2, nl_inT, nI_add, nI_mul, nI_leI, nI_ltI, nI_eq, nI_clamp, nl_bit, oI_n, oI_s, oI_m1, true_and, and_true, eq_self, Bool.false_eq_true, not_false_eq_true, not_true_eq_false, false_implies, true_implies, implies_true, forall_const, Nat.not_lt_zero, ab_row_eq, ab_row_ne, ab_up_i, ab_up_o, pk_us, pk_un, ab_row_row]
      · by_cases o : g k < 1
        · refine ⟨_, _, fun c hc => ab_up_o hc, Or.inr ⟨e2 k, m2, q5, bfQ_add h p3 (by omega) hs q5 m2 m1 (Or.inl ⟨rfl, rfl, o⟩)⟩, ?_⟩
          refine ab_C_of (by decide) rfl (Nat.le_of_ble_eq_true rfl) hT ?_
          refine r_Roads_reachOver_0 hT _ _ (Nat.le_refl _) (Nat.le_refl _) ?_
          simp (disch := first | omega | decide) only [hsk, hs, q1, q2, b1, b2, m1, m2, fk, f1, o, nl_add1, nl_add2, nl_mul1, nl_mul2, nl_sub1, nl_lt1, nl_lt2, nl_le1, nl_le2, nl_eq1, nl_eq2, nl_m1, nl_m2, nl_inT, nI_add, nI_mul, nI_leI, nI_ltI, nI_eq, nI_clamp, nl_bit, oI_n, oI_s, oI_m1, true_and, and_true, eq_self, Bool.false_eq_true, not_false_eq_true, not_true_eq_false, false_implies, true_implies, implies_true, forall_const, Nat.not_lt_zero, ab_row_eq, ab_row_ne, ab_up_i, ab_up_o, pk_us, pk_un, ab_row_row]
        · refine ⟨J, x, fun _ _ => rfl, Or.inl ⟨rfl, rfl, fun _ u v ho hu => ?_⟩, ?_⟩
          · rcases ho with ⟨-, -, e⟩ | ⟨e, -, -⟩
            · exact absurd e o
            · rw [e] at hu; exact absurd hu m2
          · refine ab_C_of (by decide) rfl (Nat.le_of_ble_eq_true rfl) hT ?_
            refine r_Roads_reachOver_0 hT _ _ (Nat.le_refl _) (Nat.le_refl _) ?_
            simp (disch := first | omega | decide) only [hsk, hs, q1, q2, b1, b2, m1, m2, fk, f1, o, nl_add1, nl_add2, nl_mul1, nl_mul2, nl_sub1, nl_lt1, nl_lt2, nl_le1, nl_le2, nl_eq1, nl_eq2, nl_m1, nl_m2, nl_inT, nI_add, nI_mul, nI_leI, nI_ltI, nI_eq, nI_clamp, nl_bit, oI_n, oI_s, oI_m1, true_and, and_true, eq_self, Bool.false_eq_true, not_false_eq_true, not_true_eq_false, false_implies, true_implies, implies_true, forall_const, Nat.not_lt_zero, ab_row_eq, ab_row_ne, ab_up_i, ab_up_o, pk_us, pk_un, ab_row_row]
    · by_cases m2 : e2 k ∈ Q
      · by_cases o : -1 < g k
        · refine ⟨_, _, fun c hc => ab_up_o hc, Or.inr ⟨e1 k, m1, q4, bfQ_add h p3 (by omega) hs q4 m1 m2 (Or.inr ⟨rfl, rfl, o⟩)⟩, ?_⟩
          refine ab_C_of (by decide) rfl (Nat.le_of_ble_eq_true rfl) hT ?_
          refine r_Roads_reachOver_0 hT _ _ (Nat.le_refl _) (Nat.le_refl _) ?_
          simp (disch := first | omega | decide) only [hsk, hs, q1, q2, b1, b2, m1, m2, fk, f2, o, nl_add1, nl_add2, nl_mul1, nl_mul2, nl_sub1, nl_lt1, nl_lt2, nl_le1, nl_le2, nl_eq1, nl_eq2, nl_m1, nl_m2, nl_inT, nI_add, nI_mul, nI_leI, nI_ltI, nI_eq, nI_clamp, nl_bit, oI_n, oI_s, oI_m1, true_and, and_true, eq_self, Bool.false_eq_true, not_false_eq_true, not_true_eq_false, false_implies, true_implies, implies_true, forall_const, Nat.not_lt_zero, ab_row_eq, ab_row_ne, ab_up_i, ab_up_o, pk_us, pk_un, ab_row_row]
        · refine ⟨J, x, fun _ _ => rfl, Or.inl ⟨rfl, rfl, fun _ u v ho hu => ?_⟩, ?_⟩
          · rcases ho with ⟨e, -, -⟩ | ⟨-, -, e⟩
            · rw [e] at hu; exact absurd hu m1
            · exact absurd e o
          · refine ab_C_of (by decide) rfl (Nat.le_of_ble_eq_true rfl) hT ?_
            refine r_Roads_reachOver_0 hT _ _ (Nat.le_refl _) (Nat.le_refl _) ?_
            simp (disch := first | omega | decide) only [hsk, hs, q1, q2, b1, b2, m1, m2, fk, f2, o, nl_add1, nl_add2, nl_mul1, nl_mul2, nl_sub1, nl_lt1, nl_lt2, nl_le1, nl_le2, nl_eq1, nl_eq2, nl_m1, nl_m2, nl_inT, nI_add, nI_mul, nI_leI, nI_ltI, nI_eq, nI_clamp, nl_bit, oI_n, oI_s, oI_m1, true_and, and_true, eq_self, Bool.false_eq_true, not_false_eq_true, not_true_eq_false, false_implies, true_implies, implies_true, forall_const, Nat.not_lt_zero, ab_row_eq, ab_row_ne, ab_up_i, ab_up_o, pk_us, pk_un, ab_row_row]
      · refine ⟨J, x, fun _ _ => rfl, Or.inl ⟨rfl, rfl, fun _ u v ho hu => ?_⟩, ?_⟩
        · rcases ho with ⟨e, -, -⟩ | ⟨e, -, -⟩
          · rw [e] at hu; exact absurd hu m1
          · rw [e] at hu; exact absurd hu m2
        · refine ab_C_of (by decide) rfl (Nat.le_of_ble_eq_true rfl) hT ?_
          refine r_Roads_reachOver_0 hT _ _ (Nat.le_refl _) (Nat.le_refl _) ?_
          simp (disch := first | omega | decide) only [hsk, hs, q1, q2, b1, b2, m1, m2, nl_add1, nl_add2, nl_mul1, nl_mul2, nl_sub1, nl_lt1, nl_lt2, nl_le1, nl_le2, nl_eq1, nl_eq2, nl_m1, nl_m2, nl_inT, nI_add, nI_mul, nI_leI, nI_ltI, nI_eq, nI_clamp, nl_bit, oI_n, oI_s, oI_m1, true_and, and_true, eq_self, Bool.false_eq_true, not_false_eq_true, not_true_eq_false, false_implies, true_implies, implies_true, forall_const, Nat.not_lt_zero, ab_row_eq, ab_row_ne, ab_up_i, ab_up_o, pk_us, pk_un, ab_row_row]
  · refine ⟨J, x, fun _ _ => rfl, Or.inl ⟨rfl, rfl, fun h => absurd h hs⟩, ?_⟩
    refine ab_C_of (by decide) rfl (Nat.le_of_ble_eq_true rfl) hT ?_
    refine r_Roads_reachOver_0 hT _ _ (Nat.le_refl _) (Nat.le_refl _) ?_
    simp (disch := first | omega | decide) only [hsk, hs, nl_add1, nl_add2, nl_mul1, nl_mul2, nl_sub1, nl_lt1, nl_lt2, nl_le1, nl_le2, nl_eq1, nl_eq2, nl_m1, nl_m2, nl_inT, nI_add, nI_mul, nI_leI, nI_ltI, nI_eq, nI_clamp, nl_bit, oI_n, oI_s, oI_m1, true_and, and_true, eq_self, Bool.false_eq_true, not_false_eq_true, not_true_eq_false, false_implies, true_implies, implies_true, forall_const, Nat.not_lt_zero, ab_row_eq, ab_row_ne, ab_up_i, ab_up_o, pk_us, pk_un, ab_row_row]
theorem k_reach (hT : w.1.stackTraces = false) (hc : kC I S N sd e1 e2 pr fm l) {g : Nat → Int} {a b : Nat} {J : Nat → Nat → Int32} (hJ : ∀ c, c ≠ kx_roads_reachedBy → c ≠ kx_roads_flow → J c = I c) (hg : ∀ k, -1 ≤ g k ∧ g k ≤ 1) (hf : flI J kx_roads_flow g) (ha : a < S) (hb : b < S) (hab : a ≠ b) :
    ∃ J' r, (∀ c, c ≠ kx_roads_reachedBy → J' c = J c) ∧ ((r = 1 ∧ ∃ Q x, bfQ e1 e2 S sd g a Q J' x ∧ b ∈ Q) ∨ (r = 0 ∧ cls e1 e2 sd g a b)) ∧ ab_PU w (d + 2) mt_Roads_reach [.ref kx_roads, .ref kx_now_cables, .int (nI a), .int (nI b)] J L n nc ns r J' := by
  have p1 := hc.1.1
  have p2 := hc.1.2.1
  have p3 := hc.1.2.2.1
  have p4 := hc.1.2.2.2.1
  have c5 := hc.2.2.2.2.1
  generalize hR : (fun (J' : Nat → Nat → Int32) (r : Int32) => (∀ c, c ≠ kx_roads_reachedBy → J' c = J c) ∧ ((r = 1 ∧ ∃ Q x, bfQ e1 e2 S sd g a Q J' x ∧ b ∈ Q) ∨ (r = 0 ∧ cls e1 e2 sd g a b))) = R
  have toCls : ∀ Q (K : Nat → Nat → Int32) x, bfQ e1 e2 S sd g a Q K x → b ∉ Q → (∀ k, k < N → nfu e1 e2 sd g Q k) → cls e1 e2 sd g a b := by
    intro Q K x hQ hbQ hcl
    have haQ : a ∈ Q := by
      rw [← hQ.2.2.1]; exact getD_mem (List.length_pos_iff.mpr hQ.2.2.2.1)
    refine ⟨fun s => decide (s ∈ Q), decide_eq_true haQ, decide_eq_false hbQ, fun k hk => ?_⟩
    have hkN := c5 k hk
    have hn := hcl k hkN hk
    have hgk := hg k
    refine ⟨fun h1 h2 => ?_, fun h1 h2 => ?_⟩
    · refine Classical.byContradiction fun e => ?_
      have := hn (e1 k) (e2 k) (Or.inl ⟨rfl, rfl, by omega⟩) (of_decide_eq_true h1)
      exact absurd this (of_decide_eq_false h2)
    · refine Classical.byContradiction fun e => ?_
      have := hn (e2 k) (e1 k) (Or.inr ⟨rfl, rfl, by omega⟩) (of_decide_eq_true h1)
      exact absurd this (of_decide_eq_false h2)
  -- the end
  have fin : ∀ Q (K : Nat → Nat → Int32) x (v5 : Int32), (∀ c, c ≠ kx_roads_reachedBy → K c = J c) → bfQ e1 e2 S sd g a Q K x → (b ∈ Q ∨ (10 ≤ v5 ∧ ∀ k, k < N → nfu e1 e2 sd g Q k)) → ∃ J' r, R J' r ∧ ab_E w ((d + 1) + 1) mt_Roads_reach 32 [.ref kx_roads, .ref kx_now_cables, .int (nI a), .int (nI b), .int x, .int v5, .null] [] (K, L, ab_RR, n, nc, ns) (.inl (some (.int r)), (J', L, ab_RR, n, nc, ns)) := by
    intro Q K x v5 hK hQ hh
    have hbb := hQ.2.2.2.2.1 b hb
    by_cases hbQ : b ∈ Q
    · refine ⟨K, 1, by rw [← hR]; exact ⟨hK, Or.inl ⟨rfl, Q, x, hQ, hbQ⟩⟩, ?_⟩
      have b0 : ¬ ((x >>> (nI b &&& 31)) &&& 1) = 0 := by rw [ab_bit _ (by omega), if_pos (hbb.mpr hbQ)]; decide
      have b1 : ((x >>> (nI b &&& 31)) &&& 1) = 1 := by rw [ab_bit _ (by omega), if_pos (hbb.mpr hbQ)]
      refine r_Roads_reach_32 hT _ _ _ _ (Nat.le_refl _) (Nat.le_refl _) ?_
      refine ⟨fun _ => ⟨fun h => absurd b1 h, fun _ => rfl⟩, fun _ => ⟨fun _ => ⟨fun h => absurd b1 h, fun _ => rfl⟩, fun h => absurd h b0⟩⟩
    · obtain ⟨h10, hcl⟩ := hh.resolve_left hbQ
      refine ⟨K, 0, by rw [← hR]; exact ⟨hK, Or.inr ⟨rfl, toCls Q K x hQ hbQ hcl⟩⟩, ?_⟩
      have b1 : ¬ ((x >>> (nI b &&& 31)) &&& 1) = 1 := by rw [ab_bit_iff _ (by omega)]; exact fun h => hbQ (hbb.mp h)
      refine r_Roads_reach_32 hT _ _ _ _ (Nat.le_refl _) (Nat.le_refl _) ?_
      exact ⟨fun _ => ⟨fun _ => rfl, fun h => absurd h b1⟩, fun h => absurd h10 h⟩
  have rounds : ∀ m r Q (K : Nat → Nat → Int32) x, r + m = 10 → (∀ c, c ≠ kx_roads_reachedBy → K c = J c) → bfQ e1 e2 S sd g a Q K x → (r < Q.length ∨ ∀ k, k < N → nfu e1 e2 sd g Q k) → ∃ J' r', R J' r' ∧ ab_E w ((d + 1) + 1) mt_Roads_reach 32 [.ref kx_roads, .ref kx_now_cables, .int (nI a), .int (nI b), .int x, .int (nI r), .null] [] (K, L, ab_RR, n, nc, ns) (.inl (some (.int r')), (J', L, ab_RR, n, nc, ns)) := by
    intro m
    induction m with
    | zero =>
      intro r Q K x hr hK hQ hh
      refine fin Q K x (nI r) hK hQ ?_
      have hl := nd_lt hQ.1 hQ.2.1
      exact Or.inr ⟨(nI_leI (a := 10) (by omega) (by omega)).mpr (by omega), hh.resolve_left (by omega)⟩
    | succ m ih =>
      intro r Q K x hr hK hQ hh
      by_cases hbQ : b ∈ Q
      · exact fin Q K x (nI r) hK hQ (Or.inl hbQ)
      · have hbb := hQ.2.2.2.2.1 b hb
        have b0 : ((x >>> (nI b &&& 31)) &&& 1) = 0 := by
          rw [ab_bit _ (by omega), if_neg (fun h => hbQ (hbb.mp h))]
        have inner : ∀ q k Q' (K : Nat → Nat → Int32) x', k + q = N → (∀ c, c ≠ kx_roads_reachedBy → K c = J c) → bfQ e1 e2 S sd g a Q' K x' → ((Q' = Q ∧ ∀ j, j < k → nfu e1 e2 sd g Q j) ∨ Q.length < Q'.length) → ∃ J' r', R J' r' ∧ ab_E w ((d + 1) + 1) mt_Roads_reach 51 [.ref kx_roads, .ref kx_now_cables, .int (nI a), .int (nI b), .int (x'), .int (nI r), .int (nI k)] [] (K, L, ab_RR, n, nc, ns) (.inl (some (.int r')), (J', L, ab_RR, n, nc, ns)) := by
          intro q
          induction q with
          | zero =>
            intro k Q' K x' hk hK hQ' hh'
            have e : k = N := by omega
            subst e
            obtain ⟨J', r', g1, g2⟩ := ih (r + 1) Q' K x' (by omega) hK hQ' (by
              rcases hh' with ⟨e, h⟩ | h
              · rw [e]; exact Or.inr h
              · rcases hh with h' | h'
                · exact Or.inl (by omega)
                · exfalso
                  have hsub : ∀ i, i < Q'.length → Q'.getD i 0 ∈ Q := by
                    intro i
                    induction i using Nat.strongRecOn with
                    | ind i ihi =>
                      intro hi
                      by_cases e0 : i = 0
                      · subst e0
                        rw [hQ'.2.2.1, ← hQ.2.2.1]; exact getD_mem (List.length_pos_iff.mpr hQ.2.2.2.1)
                      · obtain ⟨k', j, -, -, u3, u4, u5⟩ := hQ'.2.2.2.2.2 i (by omega) hi
                        exact h' k' (c5 k' u3) u3 _ _ u5 (ihi j u4 (by omega))
                  have := nd_len Q' Q hQ'.1 (fun s hs => by
                    obtain ⟨i, hi, e⟩ := List.getElem_of_mem hs
                    have := hsub i hi
                    rwa [List.getD_eq_getElem?_getD, List.getElem?_eq_getElem hi, Option.getD_some, e] at this)
                  omega)
            refine ⟨J', r', g1, ?_⟩
            refine r_Roads_reach_51 hT _ _ _ _ _ (Nat.le_refl _) (Nat.le_refl _) ?_
            refine bb_t ?_ (by rw [nI_1]; exact g2)
            rw [hK _ (by decide), hJ _ (by decide) (by decide), p2]; exact nI_le (Nat.le_refl _) (by omega)
          | succ q ihq =>
            intro k Q' K x' hk hK hQ' hh'
            obtain ⟨K2, x2, a1, a2, a3⟩ := k_reachOver (w := w) (d := d) (n := n) (nc := nc) (ns := ns) (L := L) hT hc (g := g) (k := k) (J := K) (fun c h1 h2 => (hK c h1).trans (hJ c h1 h2)) hg (fun j hj => by rw [hK _ (by decide)]; exact hf j hj) (by omega) hQ'
            have goal : ∃ J' r', R J' r' ∧ ab_E w ((d + 1) + 1) mt_Roads_reach 51 [.ref kx_roads, .ref kx_now_cables, .int (nI a), .int (nI b), .int x2, .int (nI r), .int (nI (k + 1))] [] (K2, L, ab_RR, n, nc, ns) (.inl (some (.int r')), (J', L, ab_RR, n, nc, ns)) := by
              rcases a2 with ⟨e1', e2', a2⟩ | ⟨y, y1, y2, y3⟩
              · rw [e1', e2']
                refine ihq (k + 1) Q' K x' (by omega) hK hQ' ?_
                rcases hh' with ⟨e, h⟩ | h
                · refine Or.inl ⟨e, fun j hj => ?_⟩
                  by_cases e9 : j = k
                  · rw [e9, ← e]; exact a2
                  · exact h j (by omega)
                · exact Or.inr h
              · refine ihq (k + 1) (Q' ++ [y]) K2 x2 (by omega) (fun c hc => (a1 c hc).trans (hK c hc)) y3 (Or.inr ?_)
                rw [List.length_append, List.length_singleton]
                rcases hh' with ⟨e, h⟩ | h
                · rw [e]; omega
                · omega
            obtain ⟨J', r', g1, g2⟩ := goal
            refine ⟨J', r', g1, ?_⟩
            refine r_Roads_reach_51 hT _ _ _ _ _ (Nat.le_refl _) (Nat.le_refl _) ?_
            refine bb_f ?_ ⟨x2, K2, a3, ?_⟩
            · rw [hK _ (by decide), hJ _ (by decide) (by decide), p2]; exact nI_ge (by omega) (by omega)
            · rw [nI_1]; exact g2
        obtain ⟨J', r', g1, g2⟩ := inner N 0 Q K x (by omega) hK hQ (Or.inl ⟨rfl, fun j hj => absurd hj (Nat.not_lt_zero j)⟩)
        refine ⟨J', r', g1, ?_⟩
        have hr10 : ¬ 10 ≤ r := by omega
        refine r_Roads_reach_32 hT _ _ _ _ (Nat.le_refl _) (Nat.le_refl _) ?_
        simp (disch := first | omega | decide) only [hr10, b0, nl_add1, nl_add2, nl_mul1, nl_mul2, nl_sub1, nl_lt1, nl_lt2, nl_le1, nl_le2, nl_eq1, nl_eq2, nl_m1, nl_m2, nl_inT, nI_add, nI_mul, nI_leI, nI_ltI, nI_eq, nI_clamp, nl_bit, oI_n, oI_s, oI_m1, true_and, and_true, eq_self, Bool.false_eq_true, not_false_eq_true, not_true_eq_false, false_implies, true_implies, implies_true, forall_const, Nat.not_lt_zero, ab_row_eq, ab_row_ne, ab_up_i, ab_up_o, pk_us, pk_un, ab_row_row]
        exact g2
  have start : ∀ m i (K : Nat → Nat → Int32), i + m = 10 → (∀ c, c ≠ kx_roads_reachedBy → K c = J c) → ∃ J' r', R J' r' ∧ ab_E w ((d + 1) + 1) mt_Roads_reach 3 [.ref kx_roads, .ref kx_now_cables, .int (nI a), .int (nI b), .int (nI i), .null, .null] [] (K, L, ab_RR, n, nc, ns) (.inl (some (.int r')), (J', L, ab_RR, n, nc, ns)) := by
    intro m
    induction m with
    | zero =>
      intro i K hi hK
      obtain ⟨J', r', g1, g2⟩ := rounds 10 0 [a] K ((1 : Int32) <<< (nI a &&& 31)) (by omega) hK ⟨List.pairwise_singleton _ _, fun s hs => by rw [List.mem_singleton.mp hs]; exact ha, rfl, by simp, fun s hs => by rw [ab_sh1 (by omega) (by omega), decide_eq_true_iff, List.mem_singleton], fun i h0 hi => by simp at hi; omega⟩ (Or.inl (by simp))
      refine ⟨J', r', g1, ?_⟩
      have h10 : 10 ≤ i := by omega
      refine r_Roads_reach_3 hT _ _ _ (Nat.le_refl _) (Nat.le_refl _) ?_
      simp (disch := first | omega | decide) only [h10, nl_add1, nl_add2, nl_mul1, nl_mul2, nl_sub1, nl_lt1, nl_lt2, nl_le1, nl_le2, nl_eq1, nl_eq2, nl_m1, nl_m2, nl_inT, nI_add, nI_mul, nI_leI, nI_ltI, nI_eq, nI_clamp, nl_bit, oI_n, oI_s, oI_m1, true_and, and_true, eq_self, Bool.false_eq_true, not_false_eq_true, not_true_eq_false, false_implies, true_implies, implies_true, forall_const, Nat.not_lt_zero, ab_row_eq, ab_row_ne, ab_up_i, ab_up_o, pk_us, pk_un, ab_row_row]
      exact g2
    | succ m ih =>
      intro i K hi hK
      obtain ⟨J', r', g1, g2⟩ := ih (i + 1) (ab_up K kx_roads_reachedBy i (-1)) (by omega) (fun c hc => by rw [ab_up_o hc]; exact hK c hc)
      refine ⟨J', r', g1, ?_⟩
      have h10 : ¬ 10 ≤ i := by omega
      refine r_Roads_reach_3 hT _ _ _ (Nat.le_refl _) (Nat.le_refl _) ?_
      simp (disch := first | omega | decide) only [h10, nl_add1, nl_add2, nl_mul1, nl_mul2, nl_sub1, nl_lt1, nl_lt2, nl_le1, nl_le2, nl_eq1, nl_eq2, nl_m1, nl_m2, nl_inT, nI_add, nI_mul, nI_leI, nI_ltI, nI_eq, nI_clamp, nl_bit, oI_n, oI_s, oI_m1, true_and, and_true, eq_self, Bool.false_eq_true, not_false_eq_true, not_true_eq_false, false_implies, true_implies, implies_true, forall_const, Nat.not_lt_zero, ab_row_eq, ab_row_ne, ab_up_i, ab_up_o, pk_us, pk_un, ab_row_row]
      exact g2
  obtain ⟨J', r', g1, g2⟩ := start 10 0 J (by omega) (fun _ _ => rfl)
  rw [← hR] at g1
  refine ⟨J', r', g1.1, g1.2, ?_⟩
  refine ab_C_of (by decide) rfl (Nat.le_of_ble_eq_true rfl) hT ?_
  refine r_Roads_reach_0 hT _ _ (Nat.le_refl _) (Nat.le_refl _) ?_
  exact g2
end KAP
