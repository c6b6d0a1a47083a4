/-! ALL side by side -/
/-- a price behind so many hundredths -/
def hdP (c x : Nat) : Nat := max 1 (min 999 (x * c / 100))
theorem hdP_b (c x : Nat) : 1 ≤ hdP c x ∧ hdP c x ≤ 999 := by unfold hdP; omega
noncomputable def alS (N : Nat) (sd : Nat → Bool) (e1 e2 fm : Nat → Nat) (f c : Nat) (pr : Nat → Nat) (E : Nat) (h : Nat → Nat → Nat) : Nat → (Nat → Nat) × Nat × (Nat → Nat → Nat)
  | 0 => (pr, E, h)
  | i + 1 => if fm i = f then ((fun j => if j = i then hdP c ((alS N sd e1 e2 fm f c pr E h i).1 i) else (alS N sd e1 e2 fm f c pr E h i).1 j), nxE (nB e1 e2 sd (lo (alS N sd e1 e2 fm f c pr E h i).1 N)) (nB e1 e2 sd (lo (fun j => if j = i then hdP c ((alS N sd e1 e2 fm f c pr E h i).1 i) else (alS N sd e1 e2 fm f c pr E h i).1 j) N)) (alS N sd e1 e2 fm f c pr E h i).2.1, nxH (nB e1 e2 sd (lo (alS N sd e1 e2 fm f c pr E h i).1 N)) (nB e1 e2 sd (lo (fun j => if j = i then hdP c ((alS N sd e1 e2 fm f c pr E h i).1 i) else (alS N sd e1 e2 fm f c pr E h i).1 j) N)) (if hdP c ((alS N sd e1 e2 fm f c pr E h i).1 i) ≤ (alS N sd e1 e2 fm f c pr E h i).1 i then 2 else 1) i ((net e1 e2 sd (lo (fun j => if j = i then hdP c ((alS N sd e1 e2 fm f c pr E h i).1 i) else (alS N sd e1 e2 fm f c pr E h i).1 j) N)).map (fun j => if j = i then hdP c ((alS N sd e1 e2 fm f c pr E h i).1 i) else (alS N sd e1 e2 fm f c pr E h i).1 j)).sum (alS N sd e1 e2 fm f c pr E h i).2.1 (alS N sd e1 e2 fm f c pr E h i).2.2) else alS N sd e1 e2 fm f c pr E h i
theorem v_hu (u : Int32) : (∃ c, 50 ≤ c ∧ c ≤ 200 ∧ 100 + u = nI c ∧ ¬ u < -50 ∧ ¬ 100 < u) ∨ u < -50 ∨ (¬ u < -50 ∧ 100 < u) := by
  have one : (-50 : Int32).toInt = -50 := by decide
  have top : (100 : Int32).toInt = 100 := by decide
  by_cases h1 : u < -50
  · exact Or.inr (Or.inl h1)
  · by_cases h2 : 100 < u
    · exact Or.inr (Or.inr ⟨h1, h2⟩)
    · have g1 := h1
      have g2 := h2
      rw [Int32.lt_iff_toInt_lt, one] at g1
      rw [Int32.lt_iff_toInt_lt, top] at g2
      refine Or.inl ⟨(100 + u.toInt).toNat, by omega, by omega, ?_, h1, h2⟩
      apply Int32.toInt_inj.mp
      rw [nI_toInt (by omega), Int32.toInt_add, top, Int.bmod_eq_of_le (by omega) (by omega)]
      omega
section JAL
variable {w : ab_Wd} {d n nc ns : Nat} {I : Nat → Nat → Int32} {L : Nat → Nat → Int64}
variable {S T N : Nat} {sd : Nat → Bool} {e1 e2 pr fm : Nat → Nat} {l : List Nat}
theorem hd_nI {c x : Nat} {u : Int32} (hc : c ≤ 200) (hx : x ≤ 999) (hu : 100 + u = nI c) : ab_max32 1 (ab_min32 999 ((nI x * (100 + u)) / 100)) = nI (hdP c x) := by
  have hm : x * c ≤ 999 * 200 := Nat.mul_le_mul hx hc
  have hd : x * c / 100 ≤ x * c := Nat.div_le_self _ _
  rw [hu, nI_mul, show (100 : Int32) = nI 100 from rfl, nI_div (by omega) (by omega), show (999 : Int32) = nI 999 from rfl, ab_min_nI (by omega) (by omega), show (1 : Int32) = nI 1 from rfl, ab_max_nI (by omega) (by omega)]
  rfl
theorem z_hasCables (hT : w.1.stackTraces = false) (hm : mC I S N sd e1 e2 pr fm l) {f : Nat} (hf : f < 4) : ∃ r, (r = 0 ↔ ∀ k, k < N → ¬ fm k = f) ∧ ab_P w (d + 1) mt_M_hasCables [.ref mx, .int (nI f)] I L n nc ns r := by
  have p4 := hm.1.2.2.2.1
  have z1 := hm.1.2.1
  have loop : ∀ t i (r : Int32), i + t = N → (r = 0 ∨ r = 1) → (r = 0 ↔ ∀ k, k < i → ¬ fm k = f) → ∃ r', (r' = 0 ↔ ∀ k, k < N → ¬ fm k = f) ∧ ab_E w (d + 1) mt_M_hasCables 4 [.ref mx, .int (nI f), .int r, .int (nI i)] [] (I, L, ab_RR, n, nc, ns) (.inl (some (.int r')), (I, L, ab_RR, n, nc, ns)) := by
    intro t
    induction t with
    | zero =>
      intro i r hi h1 h2
      have e : i = N := by omega
      subst e
      refine ⟨r, h2, ?_⟩
      refine r_M_hasCables_4 hT _ _ _ (Nat.le_refl _) (Nat.le_refl _) ?_
      rw [z1]
      refine bb_t (nI_le (Nat.le_refl _) (by omega)) ⟨?_, rfl⟩
      rcases h1 with e | e <;> subst e <;> rfl
    | succ t ih =>
      intro i r hi h1 h2
      have q := hm.2.2.2.2 i (by omega)
      have hle : ¬ nI N ≤ nI i := fun h => by have := (nI_leI (by omega) (by omega)).mp h; omega
      rcases h1 with e | e
      · subst e
        by_cases hq : fm i = f
        · obtain ⟨r', g1, g2⟩ := ih (i + 1) 1 (by omega) (Or.inr rfl) ⟨fun h => absurd h (by decide), fun h => absurd hq (h i (by omega))⟩
          refine ⟨r', g1, ?_⟩
          refine r_M_hasCables_4 hT _ _ _ (Nat.le_refl _) (Nat.le_refl _) ?_
          rw [z1, nl_add2, nI_clamp (by omega), q.1, hq, nI_1]
          exact bb_f hle (bb_t' rfl ⟨vp_in_nI (by omega) (by omega), bb_t' rfl g2⟩)
        · obtain ⟨r', g1, g2⟩ := ih (i + 1) 0 (by omega) (Or.inl rfl) ⟨fun _ k hk => by
            by_cases e : k = i
            · rw [e]; exact hq
            · exact h2.mp rfl k (by omega), fun _ => rfl⟩
          refine ⟨r', g1, ?_⟩
          refine r_M_hasCables_4 hT _ _ _ (Nat.le_refl _) (Nat.le_refl _) ?_
          rw [z1, nl_add2, nI_clamp (by omega), q.1, nI_1]
          exact bb_f hle (bb_t' rfl ⟨vp_in_nI (by omega) (by omega), bb_f' (fun h => hq ((nI_eq (by omega) (by omega)).mp h)) g2⟩)
      · subst e
        obtain ⟨r', g1, g2⟩ := ih (i + 1) 1 (by omega) (Or.inr rfl) ⟨fun h => absurd h (by decide), fun h => by
            have := h2.mpr (fun k hk => h k (by omega)); exact absurd this (by decide)⟩
        refine ⟨r', g1, ?_⟩
        refine r_M_hasCables_4 hT _ _ _ (Nat.le_refl _) (Nat.le_refl _) ?_
        rw [z1, nI_1]
        exact bb_f hle (bb_f' (by decide) g2)
  obtain ⟨r', g1, g2⟩ := loop N 0 0 (by omega) (Or.inl rfl) ⟨fun _ k hk => absurd hk (Nat.not_lt_zero k), fun _ => rfl⟩
  refine ⟨r', g1, ?_⟩
  refine ab_C_of (by decide) rfl (Nat.le_of_ble_eq_true rfl) hT ?_
  refine r_M_hasCables_0 hT _ (Nat.le_refl _) (Nat.le_refl _) ?_
  exact g2
theorem alS_no {f c E i : Nat} {h : Nat → Nat → Nat} (hf : ¬ fm i = f) : (alS N sd e1 e2 fm f c pr E h (i + 1)) = (alS N sd e1 e2 fm f c pr E h i) := if_neg hf
theorem alS_yes {f c E i : Nat} {h : Nat → Nat → Nat} (hf : fm i = f) : (alS N sd e1 e2 fm f c pr E h (i + 1)).1 = (fun j => if j = i then hdP c ((alS N sd e1 e2 fm f c pr E h i).1 i) else (alS N sd e1 e2 fm f c pr E h i).1 j) ∧ (alS N sd e1 e2 fm f c pr E h (i + 1)).2.1 = nxE (nB e1 e2 sd (lo (alS N sd e1 e2 fm f c pr E h i).1 N)) (nB e1 e2 sd (lo (fun j => if j = i then hdP c ((alS N sd e1 e2 fm f c pr E h i).1 i) else (alS N sd e1 e2 fm f c pr E h i).1 j) N)) (alS N sd e1 e2 fm f c pr E h i).2.1 ∧ (alS N sd e1 e2 fm f c pr E h (i + 1)).2.2 = nxH (nB e1 e2 sd (lo (alS N sd e1 e2 fm f c pr E h i).1 N)) (nB e1 e2 sd (lo (fun j => if j = i then hdP c ((alS N sd e1 e2 fm f c pr E h i).1 i) else (alS N sd e1 e2 fm f c pr E h i).1 j) N)) (if hdP c ((alS N sd e1 e2 fm f c pr E h i).1 i) ≤ (alS N sd e1 e2 fm f c pr E h i).1 i then 2 else 1) i ((net e1 e2 sd (lo (fun j => if j = i then hdP c ((alS N sd e1 e2 fm f c pr E h i).1 i) else (alS N sd e1 e2 fm f c pr E h i).1 j) N)).map (fun j => if j = i then hdP c ((alS N sd e1 e2 fm f c pr E h i).1 i) else (alS N sd e1 e2 fm f c pr E h i).1 j)).sum (alS N sd e1 e2 fm f c pr E h i).2.1 (alS N sd e1 e2 fm f c pr E h i).2.2 := by
  have e : (alS N sd e1 e2 fm f c pr E h (i + 1)) = _ := if_pos hf
  rw [e]
  exact ⟨rfl, rfl, rfl⟩
theorem alS_E {f c E : Nat} {h : Nat → Nat → Nat} : ∀ i, E ≤ (alS N sd e1 e2 fm f c pr E h i).2.1 ∧ (alS N sd e1 e2 fm f c pr E h i).2.1 ≤ E + i ∧ ∀ j, j < E → (alS N sd e1 e2 fm f c pr E h i).2.2 j = h j := by
  intro i
  induction i with
  | zero => exact ⟨Nat.le_refl _, Nat.le_refl _, fun _ _ => rfl⟩
  | succ i ih =>
    by_cases hf : fm i = f
    · obtain ⟨y1, y2, y3⟩ := alS_yes (N := N) (sd := sd) (e1 := e1) (e2 := e2) (pr := pr) (c := c) (E := E) (h := h) hf
      rw [y2, y3]
      refine ⟨Nat.le_trans ih.1 nxE_le.1, ?_, fun j hj => ?_⟩
      · exact Nat.le_trans nxE_le.2 (by have := ih.2.1; omega)
      · rw [nxH_old j (by have := ih.1; omega)]; exact ih.2.2 j hj
    · rw [alS_no hf]
      exact ⟨ih.1, by have := ih.2.1; omega, ih.2.2⟩
end JAL
