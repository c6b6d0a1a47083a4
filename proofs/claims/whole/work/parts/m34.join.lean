/-! JOINED: the class's answer -/
theorem bt_nI (a : Nat) {i : Nat} (hi : i < 32) : bt (nI a) i = a.testBit i := by
  unfold bt
  show (BitVec.ofNat 32 a).getLsbD i = _
  rw [BitVec.getLsbD_ofNat, decide_eq_true hi, Bool.true_and]
theorem tb_lt {A S i : Nat} (hA : A < 2 ^ S) (hi : A.testBit i = true) : i < S := Classical.byContradiction fun g => by
  rw [Nat.testBit_lt_two_pow (Nat.lt_of_lt_of_le hA (Nat.pow_le_pow_right (by decide) (by omega)))] at hi; cases hi
theorem lt_tb {A S : Nat} (h : ∀ i, A.testBit i = true → i < S) : A < 2 ^ S := Nat.lt_of_not_le fun g => by
  obtain ⟨i, h1, h2⟩ := Nat.exists_ge_and_testBit_of_ge_two_pow g
  have := h i h2
  omega
theorem cnt24 {A : Nat} (hA : A < 2 ^ 10) : fa_cnt (fun j => bt (nI A) j) 24 = fa_cnt (fun x => A.testBit x) 10 := by
  have h1 : fa_cnt (fun j => bt (nI A) j) 24 = fa_cnt (fun x => A.testBit x) 24 := fa_cnt_cong (fun k hk => bt_nI A (by omega))
  rw [h1]
  have : ∀ m, fa_cnt (fun x => A.testBit x) (10 + m) = fa_cnt (fun x => A.testBit x) 10 := by
    intro m
    induction m with
    | zero => rfl
    | succ m ih =>
      rw [← Nat.add_assoc, fa_cnt_no (p := fun x => A.testBit x) (by
        cases hb : A.testBit (10 + m) with
        | false => rfl
        | true => have := tb_lt hA hb; omega)]
      exact ih
  exact this 14
theorem bc_ok {w : ab_Wd} {d n nc ns : Nat} {I : Nat → Nat → Int32} {L : Nat → Nat → Int64} (hT : w.1.stackTraces = false) {A : Nat} (hA : A < 2 ^ 10) : ab_P w d mt_Integer_bitCount [.int (nI A)] I L n nc ns (nI (fa_cnt (fun x => A.testBit x) 10)) := by
  have := z_bitCount (w := w) (d := d) (n := n) (nc := nc) (ns := ns) (I := I) (L := L) hT (x := nI A) (fun t h1 h2 => by
    rw [bt_nI A h2]
    cases hb : A.testBit t with
    | false => rfl
    | true => have := tb_lt hA hb; omega)
  rw [cnt24 hA] at this
  exact this
theorem fa_xor (a b : Nat) : nI a ^^^ nI b = nI (a ^^^ b) := b_ext fun i hi => by rw [b_xor, bt_nI a hi, bt_nI b hi, bt_nI _ hi, Nat.testBit_xor]
theorem nI_and0 {a b : Nat} (ha : a < 2 ^ 31) : nI a &&& nI b = 0 ↔ a &&& b = 0 := by
  rw [fa_and]
  have : a &&& b < 2 ^ 31 := Nat.lt_of_le_of_lt Nat.and_le_left ha
  exact nI_eq (b := 0) this (by omega)
theorem sh_pow : ∀ s, s ≤ 10 → (1 : Int32) <<< (nI s &&& 31) = nI (2 ^ s) := by decide
section DSN
variable {e1 e2 pr : Nat → Nat} {E : Nat → Prop} {S : Nat}
theorem dsN_symm (x y : Nat) : dsN e1 e2 pr E x y = dsN e1 e2 pr E y x := dsN_eq (shv_symm (dsN_shv y x))
theorem dsN_self (x : Nat) : dsN e1 e2 pr E x x = 0 := dsN_eq (Or.inl (dD_self x))
theorem dsN_far {x y : Nat} (hw : ewp e1 e2 pr E S) (hne : x ≠ y) (hy : S ≤ y) : dsN e1 e2 pr E x y = 1000000 := by
  rcases dsN_shv (e1 := e1) (e2 := e2) (pr := pr) (E := E) x y with h | h
  · obtain ⟨k, z, u, h1, h2, -, -⟩ := dD_last h hne
    have := (ed_lt hw h1 h2).2
    omega
  · exact h.2
theorem dsN_le' (hw : ewp e1 e2 pr E S) (hS : S ≤ 10) (x y : Nat) : dsN e1 e2 pr E x y ≤ 1000000 := by
  by_cases hy : y < S
  · exact dsN_le hw hS hy
  · by_cases e : x = y
    · rw [e, dsN_self]; omega
    · rw [dsN_far hw e (by omega)]; omega
theorem dsN_edge (hw : ewp e1 e2 pr E S) (hS : S ≤ 10) {k x y : Nat} (t : Nat) (hk : E k) (he : ed e1 e2 k x y) : dsN e1 e2 pr E t y ≤ dsN e1 e2 pr E t x + pr k := by
  rcases dsN_shv (e1 := e1) (e2 := e2) (pr := pr) (E := E) t x with h | h
  · have hr := rch_trans h.1 (rch_edge (pr := pr) hk he)
    rcases dsN_shv (e1 := e1) (e2 := e2) (pr := pr) (E := E) t y with g | g
    · exact g.2 _ hr
    · exact absurd hr (g.1 _)
  · have := dsN_le' hw hS t y
    omega
end DSN
section KJP
variable {w : ab_Wd} {d n nc ns : Nat} {I : Nat → Nat → Int32} {L : Nat → Nat → Int64}
variable {S N : Nat} {sd : Nat → Bool} {e1 e2 pr fm : Nat → Nat} {l : List Nat}
theorem k_joining (hT : w.1.stackTraces = false) (hc : kC I S N sd e1 e2 pr fm l) {A : Nat} (hA : A < 2 ^ S) (h2 : 2 ≤ fa_cnt (fun x => A.testBit x) 10) :
    ∃ (J : Nat → Nat → Int32) (best : Nat), (∀ c, c ≠ kx_roads → c ≠ kx_roads_lengths → c ≠ kx_roads_near → J c = I c) ∧ best ≤ 1000000 ∧ (best = 1000000 ∨ ∃ (p0 : Nat) (V : Nat → Prop), p0 < 10 ∧ AT (dsN e1 e2 pr (sdE N sd)) p0 V best ∧ ∀ x, A.testBit x = true → V x) ∧ (∀ X F, X < 2 ^ S → A &&& X = 0 → fa_cnt (fun x => X.testBit x) 10 + 2 ≤ fa_cnt (fun x => A.testBit x) 10 → spF (fun x => A.testBit x = true ∨ X.testBit x = true) F → best ≤ wtF (dsN e1 e2 pr (sdE N sd)) F) ∧ ab_PU w (d + 4) mt_Roads_joining [.ref kx_roads, .ref kx_now_cables, .int (nI A)] I L n nc ns (shI best) J := by
  have p3 := hc.1.2.2.1
  have hw := kC_ewp hc
  have hS10 : 2 ^ S ≤ 2 ^ 10 := Nat.pow_le_pow_right (by decide) p3
  obtain ⟨J0, a1, a2, a3, a4⟩ := k_measure (w := w) (d := d) (n := n) (nc := nc) (ns := ns) (L := L) hT hc
  generalize hds : dsN e1 e2 pr (sdE N sd) = ds at *
  have hsy : ∀ x y, ds x y = ds y x := fun x y => by rw [← hds]; exact dsN_symm x y
  have hle : ∀ x y, ds x y ≤ 1000000 := fun x y => by rw [← hds]; exact dsN_le' hw p3 x y
  have b1 := bc_ok (w := w) (d := d + 3) (n := n) (nc := nc) (ns := ns) (I := I) (L := L) hT (A := A) (by omega)
  generalize hm : fa_cnt (fun x => A.testBit x) 10 = m at *
  have hm10 : m ≤ 10 := by rw [← hm]; exact fa_cnt_le _ _
  have loop : ∀ q X best (J : Nat → Nat → Int32), X + q = 2 ^ S → (∀ c, c ≠ kx_roads_near → J c = J0 c) → best ≤ 1000000 → (best = 1000000 ∨ ∃ (p0 : Nat) (V : Nat → Prop), p0 < 10 ∧ AT ds p0 V best ∧ ∀ x, A.testBit x = true → V x) → (∀ Y F, Y < X → A &&& Y = 0 → fa_cnt (fun x => Y.testBit x) 10 + 2 ≤ m → spF (fun x => A.testBit x = true ∨ Y.testBit x = true) F → best ≤ wtF ds F) →
      ∃ (J' : Nat → Nat → Int32) (best' : Nat), (∀ c, c ≠ kx_roads_near → J' c = J0 c) ∧ best' ≤ 1000000 ∧ (best' = 1000000 ∨ ∃ (p0 : Nat) (V : Nat → Prop), p0 < 10 ∧ AT ds p0 V best' ∧ ∀ x, A.testBit x = true → V x) ∧ (∀ Y F, Y < 2 ^ S → A &&& Y = 0 → fa_cnt (fun x => Y.testBit x) 10 + 2 ≤ m → spF (fun x => A.testBit x = true ∨ Y.testBit x = true) F → best' ≤ wtF ds F) ∧ ab_E w ((d + 3) + 1) mt_Roads_joining 24 [.ref kx_roads, .ref kx_now_cables, .int (nI A), .int (nI m), .int (nI best), .int (nI X)] [] (J, L, ab_RR, n, nc, ns) (.inl (some (.int (shI best'))), (J', L, ab_RR, n, nc, ns)) := by
    intro q
    induction q with
    | zero =>
      intro X best J hX hJ hb h1 h3
      have e : X = 2 ^ S := by omega
      subst e
      refine ⟨J, best, hJ, hb, h1, h3, ?_⟩
      have z0 : J kx_roads 0 = nI S := by rw [hJ _ (by decide)]; exact a2
      have sp := sh_pow S p3
      refine r_Roads_joining_24 hT _ _ _ _ (Nat.le_refl _) (Nat.le_refl _) ?_
      rw [z0, sp]
      refine bb_t (nI_le (Nat.le_refl _) (by omega)) ?_
      unfold shI
      by_cases e : 1000000 ≤ best
      · rw [if_pos e]
        exact ⟨fun _ => rfl, fun h => absurd ((nI_leI (a := 1000000) (by omega) (by omega)).mpr e) h⟩
      · rw [if_neg e]
        exact ⟨fun h => absurd ((nI_leI (a := 1000000) (by omega) (by omega)).mp h) e, fun _ => rfl⟩
    | succ q ih =>
      intro X best J hX hJ hb h1 h3
      have z0 : J kx_roads 0 = nI S := by rw [hJ _ (by decide)]; exact a2
      have sp := sh_pow S p3
      have hlt : ¬ nI (2 ^ S) ≤ nI X := nI_ge (by omega) (by omega)
      have hand : (nI X &&& nI A = 0) ↔ A &&& X = 0 := by rw [nI_and0 (by omega), Nat.and_comm]
      have next : ∀ (K : Nat → Nat → Int32), (∀ c, c ≠ kx_roads_near → K c = J0 c) → ¬ (A &&& X = 0 ∧ fa_cnt (fun x => X.testBit x) 10 + 2 ≤ m) → ∃ (J' : Nat → Nat → Int32) (best' : Nat), (∀ c, c ≠ kx_roads_near → J' c = J0 c) ∧ best' ≤ 1000000 ∧ (best' = 1000000 ∨ ∃ (p0 : Nat) (V : Nat → Prop), p0 < 10 ∧ AT ds p0 V best' ∧ ∀ x, A.testBit x = true → V x) ∧ (∀ Y F, Y < 2 ^ S → A &&& Y = 0 → fa_cnt (fun x => Y.testBit x) 10 + 2 ≤ m → spF (fun x => A.testBit x = true ∨ Y.testBit x = true) F → best' ≤ wtF ds F) ∧ ab_E w ((d + 3) + 1) mt_Roads_joining 24 [.ref kx_roads, .ref kx_now_cables, .int (nI A), .int (nI m), .int (nI best), .int (nI (X + 1))] [] (K, L, ab_RR, n, nc, ns) (.inl (some (.int (shI best'))), (J', L, ab_RR, n, nc, ns)) := fun K hK hn => ih (X + 1) best K (by omega) hK hb h1 (fun Y F y1 y2 y3 y4 => by
        by_cases e : Y = X
        · subst e; exact absurd ⟨y2, y3⟩ hn
        · exact h3 Y F (by omega) y2 y3 y4)
      by_cases hd : A &&& X = 0
      · have b2 := bc_ok (w := w) (d := d + 3) (n := n) (nc := nc) (ns := ns) (I := J) (L := L) hT (A := X) (by omega)
        have hc10 : fa_cnt (fun x => X.testBit x) 10 ≤ 10 := fa_cnt_le _ _
        have e2 : nI m - 2 = nI (m - 2) := nI_sub (b := 2) h2
        by_cases hcn : fa_cnt (fun x => X.testBit x) 10 + 2 ≤ m
        · have hV : ∀ z, z < 32 → bt (nI A ||| nI X) z = (A ||| X).testBit z := fun z hz => by rw [fa_or, bt_nI _ hz]
          have tbo : ∀ z, (A ||| X).testBit z = true ↔ (A.testBit z = true ∨ X.testBit z = true) := fun z => by rw [Nat.testBit_or, Bool.or_eq_true]
          obtain ⟨J1, C, p0, c1, c2, c3, c4, c5, c6⟩ := k_spread (w := w) (d := d + 2) (n := n) (nc := nc) (ns := ns) (L := L) (I := J) hT (V := fun z => (A ||| X).testBit z) p3 ⟨z0, fun x y hx hy => by rw [hJ _ (by decide)]; exact a3 x y hx hy⟩ hsy (fun x y _ _ => hle x y) hV (fun z hz => ((tbo z).mp hz).elim (tb_lt hA) (tb_lt (by omega))) (by
              refine Classical.byContradiction fun hno => ?_
              have : fa_cnt (fun x => A.testBit x) 10 = 0 := by
                have : ∀ n, fa_cnt (fun x => A.testBit x) n = 0 := by
                  intro n
                  induction n with
                  | zero => rfl
                  | succ n ih =>
                    rw [fa_cnt_no (p := fun x => A.testBit x) (by
                      cases hb : A.testBit n with
                      | false => rfl
                      | true => exact absurd ⟨n, (tbo n).mpr (Or.inl hb)⟩ hno)]
                    exact ih
                exact this 10
              omega)
          have hp10 : p0 < 10 := by
            have := ((tbo p0).mp c3).elim (tb_lt hA) (tb_lt (show X < 2 ^ S by omega))
            omega
          have hmin : ab_min32 (nI best) (nI C) = nI (min best C) := ab_min_nI (by omega) (by omega)
          obtain ⟨J', best', g1, g2, g3, g4, g5⟩ := ih (X + 1) (min best C) J1 (by omega) (fun c hc => (c1 c hc).trans (hJ c hc)) (Nat.le_trans (Nat.min_le_left _ _) hb) (by
              by_cases e : best ≤ C
              · rw [Nat.min_eq_left e]; exact h1
              · rw [Nat.min_eq_right (by omega)]
                exact Or.inr ⟨p0, _, hp10, c4, fun x hx => (tbo x).mpr (Or.inl hx)⟩) (fun Y F y1 y2 y3 y4 => by
              by_cases e : Y = X
              · subst e
                exact Nat.le_trans (Nat.min_le_right _ _) (c5 F (spF_congr (fun z => (tbo z).symm) y4))
              · exact Nat.le_trans (Nat.min_le_left _ _) (h3 Y F (by omega) y2 y3 y4))
          refine ⟨J', best', g1, g2, g3, g4, ?_⟩
          refine r_Roads_joining_24 hT _ _ _ _ (Nat.le_refl _) (Nat.le_refl _) ?_
          rw [z0, sp]
          refine bb_f hlt ⟨fun h => absurd (hand.mpr hd) h, fun _ => ⟨_, b2, fun h => ?_, fun _ => ⟨_, J1, c6, ?_⟩⟩⟩
          · rw [e2] at h
            have := (nI_ltI (by omega) (by omega)).mp h
            omega
          · rw [hmin, nI_1]; exact g5
        · obtain ⟨J', best', g1, g2, g3, g4, g5⟩ := next J hJ (fun h => hcn h.2)
          refine ⟨J', best', g1, g2, g3, g4, ?_⟩
          refine r_Roads_joining_24 hT _ _ _ _ (Nat.le_refl _) (Nat.le_refl _) ?_
          rw [z0, sp]
          refine bb_f hlt ⟨fun h => absurd (hand.mpr hd) h, fun _ => ⟨_, b2, fun _ => by rw [nI_1]; exact g5, fun h => absurd ?_ h⟩⟩
          rw [e2]
          exact (nI_ltI (by omega) (by omega)).mpr (by omega)
      · obtain ⟨J', best', g1, g2, g3, g4, g5⟩ := next J hJ (fun h => hd h.1)
        refine ⟨J', best', g1, g2, g3, g4, ?_⟩
        refine r_Roads_joining_24 hT _ _ _ _ (Nat.le_refl _) (Nat.le_refl _) ?_
        rw [z0, sp]
        exact bb_f hlt ⟨fun _ => by rw [nI_1]; exact g5, fun h => absurd (hand.mp h) hd⟩
  obtain ⟨J', best', g1, g2, g3, g4, g5⟩ := loop (2 ^ S) 0 1000000 J0 (by omega) (fun _ _ => rfl) (Nat.le_refl _) (Or.inl rfl) (fun Y F y1 => absurd y1 (Nat.not_lt_zero Y))
  refine ⟨J', best', fun c h1 h2 h3 => (g1 c h3).trans (a1 c h1 h2), g2, g3, g4, ?_⟩
  refine ab_C_of (by decide) rfl (Nat.le_of_ble_eq_true rfl) hT ?_
  refine r_Roads_joining_0 hT _ (Nat.le_refl _) (Nat.le_refl _) ?_
  refine ⟨_, b1, fun _ => ⟨J0, a4, g5⟩, fun h => absurd ((nI_leI (a := 2) (by omega) (by omega)).mpr h2) h⟩
theorem k_joining0 (hT : w.1.stackTraces = false) {A : Nat} (hA : A < 2 ^ 10) (h2 : ¬ 2 ≤ fa_cnt (fun x => A.testBit x) 10) : ab_P w (d + 4) mt_Roads_joining [.ref kx_roads, .ref kx_now_cables, .int (nI A)] I L n nc ns 0 := by
  have b1 := bc_ok (w := w) (d := d + 3) (n := n) (nc := nc) (ns := ns) (I := I) (L := L) hT hA
  refine ab_C_of (by decide) rfl (Nat.le_of_ble_eq_true rfl) hT ?_
  refine r_Roads_joining_0 hT _ (Nat.le_refl _) (Nat.le_refl _) ?_
  refine ⟨_, b1, fun h => absurd ((nI_leI (a := 2) (by omega) (by omega)).mp h) h2, fun _ => rfl⟩
end KJP
