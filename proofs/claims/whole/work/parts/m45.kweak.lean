/-! THE CLASS: weak couples, cheapest, firms, prices -/
theorem wki_pre {W : Nat → Nat → Bool} {a b : Nat} : ∀ {m}, ∃ t, wki W a (b + m) = wki W a b ++ t := by
  intro m
  induction m with
  | zero => exact ⟨[], by rw [List.append_nil]; rfl⟩
  | succ m ih =>
    obtain ⟨t, ht⟩ := ih
    by_cases h : a < b + m ∧ W a (b + m) = true
    · exact ⟨t ++ [(a, b + m)], by rw [← Nat.add_assoc, wki_succ_t h.1 h.2, ht, List.append_assoc]⟩
    · exact ⟨t, by rw [← Nat.add_assoc, wki_succ_f h, ht]⟩
theorem wkl_pre {W : Nat → Nat → Bool} {N a : Nat} : ∀ {m}, ∃ t, wkl W N (a + m) = wkl W N a ++ t := by
  intro m
  induction m with
  | zero => exact ⟨[], by rw [List.append_nil]; rfl⟩
  | succ m ih =>
    obtain ⟨t, ht⟩ := ih
    exact ⟨t ++ wki W (a + m) N, by rw [← Nat.add_assoc, wkl_succ, ht, List.append_assoc]⟩
theorem wki_cong {W V : Nat → Nat → Bool} {a N : Nat} (h : ∀ b, a < b → b < N → W a b = V a b) : wki W a N = wki V a N := by
  induction N with
  | zero => rfl
  | succ N ih =>
    have ih := ih (fun b h1 h2 => h b h1 (by omega))
    by_cases g : a < N ∧ W a N = true
    · rw [wki_succ_t g.1 g.2, wki_succ_t g.1 (by rw [← h N g.1 (by omega)]; exact g.2), ih]
    · rw [wki_succ_f g, wki_succ_f (fun g' => g ⟨g'.1, by rw [h N g'.1 (by omega)]; exact g'.2⟩), ih]
theorem wkl_cong {W V : Nat → Nat → Bool} {N : Nat} : ∀ {a}, a ≤ N → (∀ a b, a < b → b < N → W a b = V a b) → wkl W N a = wkl V N a := by
  intro a
  induction a with
  | zero => intro _ _; rfl
  | succ a ih =>
    intro ha h
    rw [wkl_succ, wkl_succ, ih (by omega) h, wki_cong (fun b h1 h2 => h a b h1 h2)]
section KWL
variable {w : ab_Wd} {d n nc ns : Nat} {I : Nat → Nat → Int32} {L : Nat → Nat → Int64}
variable {S N : Nat} {sd : Nat → Bool} {e1 e2 pr fm : Nat → Nat} {l : List Nat}
theorem kC_fr {J : Nat → Nat → Int32} (h : kfr J I) (hq : kC I S N sd e1 e2 pr fm l) : kC J S N sd e1 e2 pr fm l := by
  unfold kC gr_pre at *
  rw [h _ (by unfold kscr; decide), h _ (by unfold kscr; decide), h _ (by unfold kscr; decide), h _ (by unfold kscr; decide), h _ (by unfold kscr; decide), h _ (by unfold kscr; decide)]
  exact hq
theorem kQ_fr {J : Nat → Nat → Int32} (h : kfr J I) (hq : kQ I S N sd e1 e2 pr fm l) : kQ J S N sd e1 e2 pr fm l := by
  refine ⟨kC_fr h hq.1, ?_⟩
  have hq := hq.2
  unfold kN wyC wyA at *
  rw [h _ (by unfold kscr; decide), h _ (by unfold kscr; decide), h _ (by unfold kscr; decide), h _ (by unfold kscr; decide), h _ (by unfold kscr; decide), h _ (by unfold kscr; decide), h _ (by unfold kscr; decide), h _ (by unfold kscr; decide)]
  exact hq
/-- the couples by the marks -/
theorem wk_mark (hq : kQ I S N sd e1 e2 pr fm l) {J : Nat → Nat → Int32} (hJ : ∀ k, k < N → ∀ j, j < 32 → bt (J kx_rings k) j = rwB e1 e2 S N sd (net e1 e2 sd l) k j) {a b : Nat} (hab : a < b) (hb : b < N) : (decide (¬ J kx_rings a = 0 ∧ J kx_rings a = J kx_rings b)) = wkB e1 e2 l sd a b := by
  have p4 := hq.1.1.2.2.2.1
  have big : ∀ k, k < N → ∀ j, 32 ≤ j → rwB e1 e2 S N sd (net e1 e2 sd l) k j = false := fun k hk j hj => by
    unfold rwB
    split
    · exact decide_eq_false (by omega)
    · rw [decide_eq_false (by omega)]; rfl
  rw [Bool.eq_iff_iff, decide_eq_true_iff, weak_iff hq (by omega) hb (by omega)]
  have z : ∀ j, j < 32 → bt (0 : Int32) j = false := fun j hj => by
    have : ∀ j : Fin 32, bt (0 : Int32) j.1 = false := by decide
    exact this ⟨j, hj⟩
  constructor
  · rintro ⟨h1, h2⟩
    constructor
    · refine Classical.byContradiction fun hno => h1 (b_ext fun j hj => ?_)
      rw [z j hj, hJ a (by omega) j hj]
      cases h : rwB e1 e2 S N sd (net e1 e2 sd l) a j with
      | false => rfl
      | true => exact absurd ⟨j, h⟩ hno
    · intro j
      by_cases hj : j < 32
      · rw [← hJ a (by omega) j hj, ← hJ b hb j hj, h2]
      · rw [big a (by omega) j (by omega), big b hb j (by omega)]
  · rintro ⟨⟨j, h1⟩, h2⟩
    constructor
    · intro e
      have hj : j < 32 := Classical.byContradiction fun h => by rw [big a (by omega) j (by omega)] at h1; cases h1
      rw [← hJ a (by omega) j hj, e, z j hj] at h1; cases h1
    · exact b_ext fun j hj => by rw [hJ a (by omega) j hj, hJ b hb j hj, h2]
theorem k_weakCouples (hT : w.1.stackTraces = false) (hq : kQ I S N sd e1 e2 pr fm l) : ∃ J, kfr J I ∧ ab_PU w (d + 5) mt_K_weakCouples [.ref kx] I L n nc ns (nI (wkl (wkB e1 e2 l sd) N N).length) J := by
  have p2 := hq.1.1.2.1
  have p4 := hq.1.1.2.2.2.1
  obtain ⟨J, g1, g2, g3⟩ := k_markRings (w := w) (d := d) (n := n) (nc := nc) (ns := ns) (L := L) hT hq
  have r1 : J kx_now_cables 1 = nI N := by rw [g1 _ (by decide)]; exact p2
  refine ⟨J, fun c hc => g1 c (fun e => hc (by rw [e]; unfold kscr; decide)), ?_⟩
  rw [← wkl_cong (W := fun a b => decide (¬ J kx_rings a = 0 ∧ J kx_rings a = J kx_rings b)) (Nat.le_refl N) (fun a b h1 h2 => wk_mark hq g2 h1 h2)]
  generalize hW : (fun a b => decide (¬ J kx_rings a = 0 ∧ J kx_rings a = J kx_rings b)) = W
  have hWi : ∀ a b, W a b = true ↔ (¬ J kx_rings a = 0 ∧ J kx_rings a = J kx_rings b) := fun a b => by rw [← hW]; exact decide_eq_true_iff
  have outer : ∀ a, a ≤ N → ab_E w ((d + 4) + 1) mt_K_weakCouples 8 [.ref kx, .int (nI (wkl W N a).length), .int (nI a), .null] [] (J, L, ab_RR, n, nc, ns) (.inl (some (.int (nI (wkl W N N).length))), (J, L, ab_RR, n, nc, ns)) := by
    refine up_ind ?_ ?_
    · refine r_K_weakCouples_8 hT _ _ (Nat.le_refl _) (Nat.le_refl _) ?_
      exact bb_t (by rw [r1]; exact nI_le (Nat.le_refl _) (by omega)) rfl
    · intro a ha nx
      have inner : ∀ b, b ≤ N → a < b → ab_E w ((d + 4) + 1) mt_K_weakCouples 26 [.ref kx, .int (nI (wkl W N a ++ wki W a b).length), .int (nI a), .int (nI b)] [] (J, L, ab_RR, n, nc, ns) (.inl (some (.int (nI (wkl W N N).length))), (J, L, ab_RR, n, nc, ns)) := by
        refine up_ind ?_ ?_
        · intro _
          refine r_K_weakCouples_26 hT _ _ _ (Nat.le_refl _) (Nat.le_refl _) ?_
          refine bb_t (by rw [r1]; exact nI_le (Nat.le_refl _) (by omega)) ?_
          rw [← wkl_succ, nI_1]; exact nx
        · intro b hb nxb hab
          have nxb := nxb (by omega)
          have hw := hWi a b
          refine r_K_weakCouples_26 hT _ _ _ (Nat.le_refl _) (Nat.le_refl _) ?_
          refine bb_f (by rw [r1]; exact nI_ge hb (by omega)) ⟨vp_in_nI (by omega) (by omega), ?_⟩
          rw [nI_clamp (by omega), nI_clamp (by omega), nI_1]
          refine ⟨fun h => ?_, fun h => ⟨vp_in_nI (by omega) (by omega), fun h2 => ?_, fun h2 => ?_⟩⟩
          · rw [wki_succ_f (fun g => (hw.mp g.2).1 h)] at nxb; exact nxb
          · rw [wki_succ_t hab (hw.mpr ⟨h, h2⟩), ← List.append_assoc, List.length_append (bs := [(a, b)])] at nxb
            rw [nI_1]; exact nxb
          · rw [wki_succ_f (fun g => h2 (hw.mp g.2).2)] at nxb; exact nxb
      have := inner (a + 1) (by omega) (by omega)
      rw [wki_0 (Nat.le_refl _), List.append_nil] at this
      refine r_K_weakCouples_8 hT _ _ (Nat.le_refl _) (Nat.le_refl _) ?_
      refine bb_f (by rw [r1]; exact nI_ge ha (by omega)) ?_
      rw [nI_1]; exact this
  refine ab_C_of (by decide) rfl (Nat.le_of_ble_eq_true rfl) hT ?_
  refine r_K_weakCouples_0 hT (Nat.le_refl _) (Nat.le_refl _) ?_
  exact ⟨J, g3, outer 0 (Nat.zero_le _)⟩
theorem k_firstWeak (hT : w.1.stackTraces = false) (hq : kQ I S N sd e1 e2 pr fm l) : ∃ J, kfr J I ∧ ab_PU w (d + 5) mt_K_firstWeak [.ref kx] I L n nc ns (fst_v (wkl (wkB e1 e2 l sd) N N)) J := by
  have p2 := hq.1.1.2.1
  have p4 := hq.1.1.2.2.2.1
  obtain ⟨J, g1, g2, g3⟩ := k_markRings (w := w) (d := d) (n := n) (nc := nc) (ns := ns) (L := L) hT hq
  have r1 : J kx_now_cables 1 = nI N := by rw [g1 _ (by decide)]; exact p2
  refine ⟨J, fun c hc => g1 c (fun e => hc (by rw [e]; unfold kscr; decide)), ?_⟩
  rw [← wkl_cong (W := fun a b => decide (¬ J kx_rings a = 0 ∧ J kx_rings a = J kx_rings b)) (Nat.le_refl N) (fun a b h1 h2 => wk_mark hq g2 h1 h2)]
  generalize hW : (fun a b => decide (¬ J kx_rings a = 0 ∧ J kx_rings a = J kx_rings b)) = W
  have hWi : ∀ a b, W a b = true ↔ (¬ J kx_rings a = 0 ∧ J kx_rings a = J kx_rings b) := fun a b => by rw [← hW]; exact decide_eq_true_iff
  have outer : ∀ a, a ≤ N → wkl W N a = [] → ab_E w ((d + 4) + 1) mt_K_firstWeak 6 [.ref kx, .int (nI a), .null] [] (J, L, ab_RR, n, nc, ns) (.inl (some (.int (fst_v (wkl W N N)))), (J, L, ab_RR, n, nc, ns)) := by
    refine up_ind ?_ ?_
    · intro he
      refine r_K_firstWeak_6 hT _ (Nat.le_refl _) (Nat.le_refl _) ?_
      rw [he]
      exact bb_t (by rw [r1]; exact nI_le (Nat.le_refl _) (by omega)) rfl
    · intro a ha nx he
      have inner : ∀ b, b ≤ N → a < b → wki W a b = [] → ab_E w ((d + 4) + 1) mt_K_firstWeak 24 [.ref kx, .int (nI a), .int (nI b)] [] (J, L, ab_RR, n, nc, ns) (.inl (some (.int (fst_v (wkl W N N)))), (J, L, ab_RR, n, nc, ns)) := by
        refine up_ind ?_ ?_
        · intro _ hi
          refine r_K_firstWeak_24 hT _ _ (Nat.le_refl _) (Nat.le_refl _) ?_
          refine bb_t (by rw [r1]; exact nI_le (Nat.le_refl _) (by omega)) ?_
          rw [nI_1]; exact nx (by rw [wkl_succ, he, hi]; rfl)
        · intro b hb nxb hab hi
          have nxb := nxb (by omega)
          have hw := hWi a b
          refine r_K_firstWeak_24 hT _ _ (Nat.le_refl _) (Nat.le_refl _) ?_
          refine bb_f (by rw [r1]; exact nI_ge hb (by omega)) ⟨vp_in_nI (by omega) (by omega), ?_⟩
          rw [nI_clamp (by omega), nI_clamp (by omega), nI_1]
          refine ⟨fun h => ?_, fun h => ⟨vp_in_nI (by omega) (by omega), fun h2 => ?_, fun h2 => ?_⟩⟩
          · exact nxb (by rw [wki_succ_f (fun g => (hw.mp g.2).1 h)]; exact hi)
          · have hs := wki_succ_t hab (hw.mpr ⟨h, h2⟩)
            obtain ⟨t, ht⟩ := wki_pre (W := W) (a := a) (b := b + 1) (m := N - (b + 1))
            obtain ⟨t2, ht2⟩ := wkl_pre (W := W) (N := N) (a := a + 1) (m := N - (a + 1))
            rw [show b + 1 + (N - (b + 1)) = N by omega] at ht
            rw [show a + 1 + (N - (a + 1)) = N by omega] at ht2
            have : fst_v (wkl W N N) = nI (100 * a + b) := by
              rw [ht2, wkl_succ, he, ht, hs, hi]; rfl
            rw [this, nl_mul2, nI_add]
          · exact nxb (by rw [wki_succ_f (fun g => h2 (hw.mp g.2).2)]; exact hi)
      have := inner (a + 1) (by omega) (by omega) (wki_0 (Nat.le_refl _))
      refine r_K_firstWeak_6 hT _ (Nat.le_refl _) (Nat.le_refl _) ?_
      refine bb_f (by rw [r1]; exact nI_ge ha (by omega)) ?_
      rw [nI_1]; exact this
  refine ab_C_of (by decide) rfl (Nat.le_of_ble_eq_true rfl) hT ?_
  refine r_K_firstWeak_0 hT (Nat.le_refl _) (Nat.le_refl _) ?_
  exact ⟨J, g3, outer 0 (Nat.zero_le _) rfl⟩
theorem k_cheapestOf (hT : w.1.stackTraces = false) (hc : kC I S N sd e1 e2 pr fm l) {v : Int32} {am : Nat → Bool} (hv : ∀ k, k < 32 → bt v k = am k) : ∃ r, ((r = -1 ∧ ∀ k, k < N → am k = false) ∨ ∃ c, r = nI c ∧ c < N ∧ am c = true ∧ ∀ k, k < N → am k = true → k = c ∨ ch pr c k) ∧ ab_P w d mt_Cables_cheapestOf [.ref kx_now_cables, .int v] I L n nc ns r := by
  obtain ⟨⟨p1, p2, p3, p4, p5, p6, p7, p8⟩, hl, -⟩ := hc
  have loop : ∀ m i, i + m = N → (∀ j, j < i → am (l.getD j 0) = false) → ∃ r, ((r = -1 ∧ ∀ k, k < N → am k = false) ∨ ∃ c, r = nI c ∧ c < N ∧ am c = true ∧ ∀ k, k < N → am k = true → k = c ∨ ch pr c k) ∧ ab_E w d mt_Cables_cheapestOf 2 [.ref kx_now_cables, .int v, .int (nI i)] [] (I, L, ab_RR, n, nc, ns) (.inl (some (.int r)), (I, L, ab_RR, n, nc, ns)) := by
    intro m
    induction m with
    | zero =>
      intro i hi h
      refine ⟨-1, Or.inl ⟨rfl, fun k hk => ?_⟩, ?_⟩
      · obtain ⟨j, hj, e⟩ := List.getElem_of_mem ((hl.2 k).mpr hk)
        have := h j (by omega)
        rw [List.getD_eq_getElem?_getD, List.getElem?_eq_getElem hj] at this
        rw [← e]; exact this
      · refine r_Cables_cheapestOf_2 hT _ _ (Nat.le_refl _) (Nat.le_refl _) ?_
        exact bb_t (by rw [p2]; exact nI_le (by omega) (by omega)) rfl
    | succ m ih =>
      intro i hi h
      have hil : i < l.length := by omega
      have hgd : l.getD i 0 = l[i] := by rw [List.getD_eq_getElem?_getD, List.getElem?_eq_getElem hil]; rfl
      have hcN : l.getD i 0 < N := by rw [hgd]; exact p7 _ (List.getElem_mem hil)
      have hb := hv (l.getD i 0) (by omega)
      have ho := p6 i (by omega)
      have hNi : ¬ N ≤ i := by omega
      by_cases ha : am (l.getD i 0) = true
      · refine ⟨nI (l.getD i 0), Or.inr ⟨_, rfl, hcN, ha, fun k hk hak => ?_⟩, ?_⟩
        · obtain ⟨j, hj, e⟩ := List.getElem_of_mem ((hl.2 k).mpr hk)
          by_cases hji : j < i
          · have := h j hji
            rw [List.getD_eq_getElem?_getD, List.getElem?_eq_getElem hj] at this
            have this : am l[j] = false := this
            rw [e, hak] at this; cases this
          · by_cases ej : j = i
            · subst ej; exact Or.inl (by rw [hgd, e])
            · refine Or.inr ?_
              rw [hgd, ← e]
              exact List.pairwise_iff_getElem.mp hl.1 i j hil hj (by omega)
        · refine r_Cables_cheapestOf_2 hT _ _ (Nat.le_refl _) (Nat.le_refl _) ?_
          simp (disch := first | omega | decide) only [p2, hNi, ho, hb, ha, nl_add1, nl_add2, nl_mul1, nl_mul2, nl_sub1, nl_lt1, nl_lt2, nl_le1, nl_le2, nl_eq1, nl_eq2, nl_m1, nl_m2, nl_inT, nI_add, nI_mul, nI_leI, nI_ltI, nI_eq, nI_clamp, nl_bit, oI_n, oI_s, oI_m1, true_and, and_true, eq_self, Bool.false_eq_true, not_false_eq_true, not_true_eq_false, false_implies, true_implies, implies_true, forall_const, Nat.not_lt_zero, ab_row_eq, ab_row_ne, ab_up_i, ab_up_o, pk_us, pk_un, ab_row_row]
      · obtain ⟨r, r1, r2⟩ := ih (i + 1) (by omega) (fun j hj => by
          by_cases e : j = i
          · rw [e]; cases g : am (l.getD i 0) with
            | false => rfl
            | true => exact absurd g ha
          · exact h j (by omega))
        refine ⟨r, r1, ?_⟩
        refine r_Cables_cheapestOf_2 hT _ _ (Nat.le_refl _) (Nat.le_refl _) ?_
        simp (disch := first | omega | decide) only [p2, hNi, ho, hb, ha, nl_add1, nl_add2, nl_mul1, nl_mul2, nl_sub1, nl_lt1, nl_lt2, nl_le1, nl_le2, nl_eq1, nl_eq2, nl_m1, nl_m2, nl_inT, nI_add, nI_mul, nI_leI, nI_ltI, nI_eq, nI_clamp, nl_bit, oI_n, oI_s, oI_m1, true_and, and_true, eq_self, Bool.false_eq_true, not_false_eq_true, not_true_eq_false, false_implies, true_implies, implies_true, forall_const, Nat.not_lt_zero, ab_row_eq, ab_row_ne, ab_up_i, ab_up_o, pk_us, pk_un, ab_row_row]
        exact r2
  obtain ⟨r, r1, r2⟩ := loop N 0 (by omega) (fun j hj => absurd hj (Nat.not_lt_zero j))
  refine ⟨r, r1, ?_⟩
  refine ab_C_of (by decide) rfl (Nat.le_of_ble_eq_true rfl) hT ?_
  refine r_Cables_cheapestOf_0 hT _ (Nat.le_refl _) (Nat.le_refl _) ?_
  exact r2
theorem k_ofFirm (hT : w.1.stackTraces = false) (hc : kC I S N sd e1 e2 pr fm l) {f : Nat} (hf : f < 4) : ab_P w d mt_Cables_ofFirm [.ref kx_now_cables, .int (nI f)] I L n nc ns (ab_mask N (fun k => decide (fm k = f))) := by
  obtain ⟨⟨p1, p2, p3, p4, p5, p6, p7, p8⟩, hl, h2, h3, h4, h5⟩ := hc
  have loop : ∀ i, i ≤ N → ab_E w d mt_Cables_ofFirm 4 [.ref kx_now_cables, .int (nI f), .int (ab_mask i (fun k => decide (fm k = f))), .int (nI i)] [] (I, L, ab_RR, n, nc, ns) (.inl (some (.int (ab_mask N (fun k => decide (fm k = f))))), (I, L, ab_RR, n, nc, ns)) := by
    refine up_ind ?_ ?_
    · refine r_Cables_ofFirm_4 hT _ _ _ (Nat.le_refl _) (Nat.le_refl _) ?_
      exact bb_t (by rw [p2]; exact nI_le (by omega) (by omega)) rfl
    · intro i hi nx
      have hNi : ¬ N ≤ i := by omega
      obtain ⟨q1, q2, -⟩ := h5 i hi
      refine r_Cables_ofFirm_4 hT _ _ _ (Nat.le_refl _) (Nat.le_refl _) ?_
      simp (disch := first | omega | decide) only [p2, hNi, q1, nl_add1, nl_add2, nl_mul1, nl_mul2, nl_sub1, nl_lt1, nl_lt2, nl_le1, nl_le2, nl_eq1, nl_eq2, nl_m1, nl_m2, nl_inT, nI_add, nI_mul, nI_leI, nI_ltI, nI_eq, nI_clamp, nl_bit, oI_n, oI_s, oI_m1, true_and, and_true, eq_self, Bool.false_eq_true, not_false_eq_true, not_true_eq_false, false_implies, true_implies, implies_true, forall_const, Nat.not_lt_zero, ab_row_eq, ab_row_ne, ab_up_i, ab_up_o, pk_us, pk_un, ab_row_row]
      refine ⟨fun e => ?_, fun e => ?_⟩
      · rw [ab_mask_not (p := fun k => decide (fm k = f)) (i := i) (by simpa using e)]; exact nx
      · rw [ab_mask_put (p := fun k => decide (fm k = f)) (i := i) (by omega) (by simpa using e)]; exact nx
  refine ab_C_of (by decide) rfl (Nat.le_of_ble_eq_true rfl) hT ?_
  refine r_Cables_ofFirm_0 hT _ (Nat.le_refl _) (Nat.le_refl _) ?_
  exact loop 0 (Nat.zero_le _)
theorem k_pricesOf (hT : w.1.stackTraces = false) (hc : kC I S N sd e1 e2 pr fm l) {v : Int32} {am : Nat → Bool} (hv : ∀ k, k < 32 → bt v k = am k) : ab_P w d mt_Cables_pricesOf [.ref kx_now_cables, .int v] I L n nc ns (nI (smf (fun k => if am k = true then pr k else 0) N)) := by
  obtain ⟨⟨p1, p2, p3, p4, p5, p6, p7, p8⟩, hl, h2, h3, h4, h5⟩ := hc
  have loop : ∀ i, i ≤ N → ab_E w d mt_Cables_pricesOf 4 [.ref kx_now_cables, .int v, .int (nI (smf (fun k => if am k = true then pr k else 0) i)), .int (nI i)] [] (I, L, ab_RR, n, nc, ns) (.inl (some (.int (nI (smf (fun k => if am k = true then pr k else 0) N)))), (I, L, ab_RR, n, nc, ns)) := by
    refine up_ind ?_ ?_
    · refine r_Cables_pricesOf_4 hT _ _ _ (Nat.le_refl _) (Nat.le_refl _) ?_
      exact bb_t (by rw [p2]; exact nI_le (by omega) (by omega)) rfl
    · intro i hi nx
      have hNi : ¬ N ≤ i := by omega
      have hb := hv i (by omega)
      have q3 := (p8 i hi).2.2.1
      rw [smf] at nx
      by_cases ha : am i = true
      · rw [if_pos ha] at nx
        refine r_Cables_pricesOf_4 hT _ _ _ (Nat.le_refl _) (Nat.le_refl _) ?_
        simp (disch := first | omega | decide) only [p2, hNi, hb, ha, q3, nl_add1, nl_add2, nl_mul1, nl_mul2, nl_sub1, nl_lt1, nl_lt2, nl_le1, nl_le2, nl_eq1, nl_eq2, nl_m1, nl_m2, nl_inT, nI_add, nI_mul, nI_leI, nI_ltI, nI_eq, nI_clamp, nl_bit, oI_n, oI_s, oI_m1, true_and, and_true, eq_self, Bool.false_eq_true, not_false_eq_true, not_true_eq_false, false_implies, true_implies, implies_true, forall_const, Nat.not_lt_zero, ab_row_eq, ab_row_ne, ab_up_i, ab_up_o, pk_us, pk_un, ab_row_row]
        exact nx
      · rw [if_neg ha, Nat.add_zero] at nx
        refine r_Cables_pricesOf_4 hT _ _ _ (Nat.le_refl _) (Nat.le_refl _) ?_
        simp (disch := first | omega | decide) only [p2, hNi, hb, ha, nl_add1, nl_add2, nl_mul1, nl_mul2, nl_sub1, nl_lt1, nl_lt2, nl_le1, nl_le2, nl_eq1, nl_eq2, nl_m1, nl_m2, nl_inT, nI_add, nI_mul, nI_leI, nI_ltI, nI_eq, nI_clamp, nl_bit, oI_n, oI_s, oI_m1, true_and, and_true, eq_self, Bool.false_eq_true, not_false_eq_true, not_true_eq_false, false_implies, true_implies, implies_true, forall_const, Nat.not_lt_zero, ab_row_eq, ab_row_ne, ab_up_i, ab_up_o, pk_us, pk_un, ab_row_row]
        exact nx
  refine ab_C_of (by decide) rfl (Nat.le_of_ble_eq_true rfl) hT ?_
  refine r_Cables_pricesOf_0 hT _ (Nat.le_refl _) (Nat.le_refl _) ?_
  exact loop 0 (Nat.zero_le _)
theorem k_cheapest (hT : w.1.stackTraces = false) (hq : kQ I S N sd e1 e2 pr fm l) {m : Nat} (hm : m ≤ (net e1 e2 sd l).length) : ∃ r, (∀ k, k < 32 → bt r k = decide (k ∈ (net e1 e2 sd l).take m)) ∧ ab_P w d mt_Forest_cheapest [.ref kx_forest, .int (nI m)] I L n nc ns r := by
  have p4 := hq.1.1.2.2.2.1
  have hlen := (kp_net hq.1.1 hq.1.2.1 (by have := hq.1.2.2.1; omega) sd).2.2.2
  have hS := hq.1.1.2.2.1
  have f1 := hq.2.1
  have fo := hq.2.2.2.2.2.1
  have hN : ∀ k, k ∈ net e1 e2 sd l → k < N := fun k hk => ((kq_mem hq k).mp hk).1
  change _ = nI (net e1 e2 sd l).length at f1
  change ∀ j, j < (net e1 e2 sd l).length → _ = nI ((net e1 e2 sd l).getD j 0) at fo
  change (net e1 e2 sd l).length + 1 ≤ S at hlen
  generalize net e1 e2 sd l = T at *
  have loop : ∀ q i x, i + q = m → (∀ k, k < 32 → bt x k = decide (k ∈ T.take i)) → ∃ r, (∀ k, k < 32 → bt r k = decide (k ∈ T.take m)) ∧ ab_E w d mt_Forest_cheapest 4 [.ref kx_forest, .int (nI m), .int x, .int (nI i)] [] (I, L, ab_RR, n, nc, ns) (.inl (some (.int r)), (I, L, ab_RR, n, nc, ns)) := by
    intro q
    induction q with
    | zero =>
      intro i x hi hx
      have e : i = m := by omega
      subst e
      refine ⟨x, hx, ?_⟩
      refine r_Forest_cheapest_4 hT _ _ _ (Nat.le_refl _) (Nat.le_refl _) ?_
      exact bb_t (nI_le (Nat.le_refl _) (by omega)) rfl
    | succ q ih =>
      intro i x hi hx
      have hiT : i < T.length := by omega
      have hgd : T.getD i 0 = T[i] := by rw [List.getD_eq_getElem?_getD, List.getElem?_eq_getElem hiT]; rfl
      have hcN : T.getD i 0 < N := by rw [hgd]; exact hN _ (List.getElem_mem hiT)
      obtain ⟨r, r1, r2⟩ := ih (i + 1) (x ||| ((1 : Int32) <<< (nI (T.getD i 0) &&& 31))) (by omega) (fun k hk => by
        rw [b_or, hx k hk, ab_sh1 (by omega) hk, ← List.take_append_getElem hiT, hgd, ← Bool.decide_or]
        exact decide_eq_decide.mpr (by rw [List.mem_append, List.mem_singleton]))
      refine ⟨r, r1, ?_⟩
      have h1 : ¬ m ≤ i := by omega
      have h2 : ¬ T.length ≤ i := by omega
      have h3 := fo i hiT
      refine r_Forest_cheapest_4 hT _ _ _ (Nat.le_refl _) (Nat.le_refl _) ?_
      simp (disch := first | omega | decide) only [h1, f1, h2, h3, nl_add1, nl_add2, nl_mul1, nl_mul2, nl_sub1, nl_lt1, nl_lt2, nl_le1, nl_le2, nl_eq1, nl_eq2, nl_m1, nl_m2, nl_inT, nI_add, nI_mul, nI_leI, nI_ltI, nI_eq, nI_clamp, nl_bit, oI_n, oI_s, oI_m1, true_and, and_true, eq_self, Bool.false_eq_true, not_false_eq_true, not_true_eq_false, false_implies, true_implies, implies_true, forall_const, Nat.not_lt_zero, ab_row_eq, ab_row_ne, ab_up_i, ab_up_o, pk_us, pk_un, ab_row_row]
      exact r2
  obtain ⟨r, r1, r2⟩ := loop m 0 0 (by omega) (fun k hk => by
    have : ∀ j : Fin 32, bt (0 : Int32) j.1 = false := by decide
    rw [this ⟨k, hk⟩]; simp)
  refine ⟨r, r1, ?_⟩
  refine ab_C_of (by decide) rfl (Nat.le_of_ble_eq_true rfl) hT ?_
  refine r_Forest_cheapest_0 hT _ (Nat.le_refl _) (Nat.le_refl _) ?_
  exact r2
end KWL
