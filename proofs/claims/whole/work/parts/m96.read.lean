/-! NET: clauses, and how the class reads them -/
def num (t : Tk) (lo hi : Nat) : Sum (Nat × Nat) Nat := if t.1 = 2 then (if t.2.1 + 3 < t.2.2.1 ∨ t.2.2.2 < lo ∨ hi < t.2.2.2 then .inl (2, t.2.1) else .inr t.2.2.2) else .inl (1, t.2.1)
def sit (t : Tk) (S : Nat) : Sum (Nat × Nat) Nat := match num t 0 9 with
  | .inl f => .inl f
  | .inr v => if v < S then .inr v else .inl (3, t.2.1)
def nxt (b : Nat → Nat) (Z : Nat) (t : Tk) : Tk := tk b Z t.2.2.1
/-- a sign within the text -/
def tOk (Z : Nat) (t : Tk) : Prop := t.1 ≤ 4 ∧ t.2.1 ≤ t.2.2.1 ∧ t.2.2.1 ≤ Z ∧ (t.1 = 2 → t.2.2.1 ≤ t.2.1 + 3 → t.2.2.2 ≤ 999)
theorem nxt_ok {b : Nat → Nat} {Z : Nat} {t : Tk} (h : tOk Z t) : tOk Z (nxt b Z t) ∧ t.2.2.1 ≤ (nxt b Z t).2.1 := by
  have g := tk_b (b := b) h.2.2.1
  exact ⟨⟨g.1, g.2.2.1, g.2.2.2.1, g.2.2.2.2.2⟩, g.2.1⟩
def flt (I : Nat → Nat → Int32) (c a : Nat) : Nat → Nat → Int32 := ab_up (ab_up I kx_reader 7 (nI c)) kx_reader 8 (nI a)
/-- the text has a fault -/
def cF (I : Nat → Nat → Int32) (b : Nat → Nat) (Z c a : Nat) : Prop := cT I b Z ∧ (∃ p, p ≤ Z ∧ I kx_reader 3 = nI p) ∧ I kx_reader 7 = nI c ∧ I kx_reader 8 = nI a ∧ 1 ≤ c ∧ c ≤ 5
section RDC
variable {w : ab_Wd} {d n nc ns : Nat} {I : Nat → Nat → Int32} {L : Nat → Nat → Int64}
variable {b : Nat → Nat} {Z : Nat} {t : Tk} {S N : Nat} {sd : Nat → Bool} {e1 e2 pr fm : Nat → Nat}
theorem cF_flt (h : cT I b Z) (hp : ∃ p, p ≤ Z ∧ I kx_reader 3 = nI p) {c a : Nat} (h1 : 1 ≤ c) (h5 : c ≤ 5) : cF (flt I c a) b Z c a := by
  unfold flt
  obtain ⟨p, p1, p2⟩ := hp
  exact ⟨⟨by rw [ab_up_i, pk_un (by decide), ab_up_i, pk_un (by decide)]; exact h.1, h.2.1, fun j hj => by rw [ab_up_o (by decide), ab_up_o (by decide)]; exact h.2.2 j hj⟩, ⟨p, p1, by rw [ab_up_i, pk_un (by decide), ab_up_i, pk_un (by decide)]; exact p2⟩, by rw [ab_up_i, pk_un (by decide), ab_up_i, pk_us], by rw [ab_up_i, pk_us], h1, h5⟩
theorem cF_ne {c a : Nat} (h : cF I b Z c a) : ¬ I kx_reader 7 = 0 := fun e => by
  have h1 := h.2.2.2.2
  rw [h.2.2.1] at e
  have := (nI_eq (b := 0) (by omega) (by omega)).mp e
  omega
theorem cF_mv {J : Nat → Nat → Int32} {c a : Nat} (h : cF I b Z c a) (g : rmv J I) (hp : ∃ p, p ≤ Z ∧ J kx_reader 3 = nI p) : cF J b Z c a := ⟨cT_mv g h.1, hp, by rw [g.2 7 (by decide) (by decide) (by decide) (by decide)]; exact h.2.2.1, by rw [g.2 8 (by decide) (by decide) (by decide) (by decide)]; exact h.2.2.2.1, h.2.2.2.2⟩
theorem B_next (hT : w.1.stackTraces = false) {c a : Nat} (h : cF I b Z c a) : ∃ J, rmv J I ∧ cF J b Z c a ∧ ab_U w (d + 2) mt_Reader_toNext [.ref kx_reader] I L n nc ns J := by
  obtain ⟨p, p1, p2⟩ := h.2.1
  obtain ⟨J, g1, g2, g3⟩ := k_next (d := d) (w := w) (n := n) (nc := nc) (ns := ns) (L := L) hT h.1 p1 p2
  exact ⟨J, g1, cF_mv h g1 ⟨_, (tk_b p1).2.2.2.1, g2.2.2.1⟩, g3⟩
theorem B_num (hT : w.1.stackTraces = false) (h : ¬ I kx_reader 7 = 0) (v u : Int32) : ∃ r, ab_P w (d + 1) mt_Reader_readNumber [.ref kx_reader, .int v, .int u] I L n nc ns r := by
  by_cases h4 : I kx_reader 4 = 2
  · by_cases h3 : 3 < ((I kx_reader 3) - (I kx_reader 5))
    · refine ⟨v, ?_⟩
      refine ab_C_of (by decide) rfl (Nat.le_of_ble_eq_true rfl) hT ?_
      refine r_Reader_readNumber_0 hT _ _ (Nat.le_refl _) (Nat.le_refl _) ?_
      exact bb_t h4 (bb_t h3 (bb_f h rfl))
    · by_cases h1 : (I kx_reader 6) < v
      · refine ⟨v, ?_⟩
        refine ab_C_of (by decide) rfl (Nat.le_of_ble_eq_true rfl) hT ?_
        refine r_Reader_readNumber_0 hT _ _ (Nat.le_refl _) (Nat.le_refl _) ?_
        exact bb_t h4 (bb_f h3 (bb_t h1 (bb_f h rfl)))
      · by_cases h2 : (I kx_reader 6) ≤ u
        · refine ⟨I kx_reader 6, ?_⟩
          refine ab_C_of (by decide) rfl (Nat.le_of_ble_eq_true rfl) hT ?_
          refine r_Reader_readNumber_0 hT _ _ (Nat.le_refl _) (Nat.le_refl _) ?_
          exact bb_t h4 (bb_f h3 (bb_f h1 (bb_t h2 rfl)))
        · refine ⟨v, ?_⟩
          refine ab_C_of (by decide) rfl (Nat.le_of_ble_eq_true rfl) hT ?_
          refine r_Reader_readNumber_0 hT _ _ (Nat.le_refl _) (Nat.le_refl _) ?_
          exact bb_t h4 (bb_f h3 (bb_f h1 (bb_f h2 (bb_f h rfl))))
  · refine ⟨v, ?_⟩
    refine ab_C_of (by decide) rfl (Nat.le_of_ble_eq_true rfl) hT ?_
    refine r_Reader_readNumber_0 hT _ _ (Nat.le_refl _) (Nat.le_refl _) ?_
    exact bb_f h4 (bb_f h rfl)
theorem B_site (hT : w.1.stackTraces = false) (h : ¬ I kx_reader 7 = 0) : ∃ r, ab_P w (d + 2) mt_Reader_readSite [.ref kx_reader] I L n nc ns r := by
  obtain ⟨r, g⟩ := B_num (d := d) (w := w) (n := n) (nc := nc) (ns := ns) (L := L) hT h 0 9
  refine ⟨r, ?_⟩
  refine ab_C_of (by decide) rfl (Nat.le_of_ble_eq_true rfl) hT ?_
  refine r_Reader_readSite_0 hT (Nat.le_refl _) (Nat.le_refl _) ?_
  refine ⟨_, _, g, ?_⟩
  by_cases e : r < I kx_trial 0
  · exact bb_t e rfl
  · exact bb_f e (bb_f h rfl)
theorem k_num (hT : w.1.stackTraces = false) (hZ : Z ≤ 700) (ht : tOk Z t) (h : rAt I t) (h7 : I kx_reader 7 = 0) {lo hi : Nat} (hl : lo ≤ hi) (hh : hi ≤ 999) : (∃ c, num t lo hi = .inl (c, t.2.1) ∧ 1 ≤ c ∧ c ≤ 2 ∧ ab_PU w (d + 1) mt_Reader_readNumber [.ref kx_reader, .int (nI lo), .int (nI hi)] I L n nc ns (nI lo) (flt I c t.2.1)) ∨ (∃ v, num t lo hi = .inr v ∧ lo ≤ v ∧ v ≤ hi ∧ ab_P w (d + 1) mt_Reader_readNumber [.ref kx_reader, .int (nI lo), .int (nI hi)] I L n nc ns (nI v)) := by
  obtain ⟨r4, r5, r3, r6⟩ := h
  obtain ⟨t1, t2, t3, t4⟩ := ht
  by_cases hk : t.1 = 2
  · have k4 : I kx_reader 4 = 2 := by rw [r4, hk]; rfl
    have r6 := r6 hk
    have es : I kx_reader 3 - I kx_reader 5 = nI (t.2.2.1 - t.2.1) := by rw [r3, r5, nI_sub t2]
    by_cases h3 : t.2.1 + 3 < t.2.2.1
    · refine Or.inl ⟨2, by unfold num; rw [if_pos hk, if_pos (Or.inl h3)], by omega, by omega, ?_⟩
      unfold flt
      refine ab_C_of (by decide) rfl (Nat.le_of_ble_eq_true rfl) hT ?_
      refine r_Reader_readNumber_0 hT _ _ (Nat.le_refl _) (Nat.le_refl _) ?_
      rw [es, r5]
      exact bb_t k4 (bb_t ((nI_ltI (a := 3) (by omega) (by omega)).mpr (by omega)) (bb_t h7 rfl))
    · have n3 : ¬ 3 < nI (t.2.2.1 - t.2.1) := fun h => by have := (nI_ltI (a := 3) (by omega) (by omega)).mp h; omega
      have t4 := t4 hk (by omega)
      by_cases h1 : t.2.2.2 < lo
      · refine Or.inl ⟨2, by unfold num; rw [if_pos hk, if_pos (Or.inr (Or.inl h1))], by omega, by omega, ?_⟩
        unfold flt
        refine ab_C_of (by decide) rfl (Nat.le_of_ble_eq_true rfl) hT ?_
        refine r_Reader_readNumber_0 hT _ _ (Nat.le_refl _) (Nat.le_refl _) ?_
        rw [es, r5, r6]
        exact bb_t k4 (bb_f n3 (bb_t ((nI_ltI (by omega) (by omega)).mpr h1) (bb_t h7 rfl)))
      · have n1 : ¬ nI t.2.2.2 < nI lo := fun h => h1 ((nI_ltI (by omega) (by omega)).mp h)
        by_cases h2 : hi < t.2.2.2
        · refine Or.inl ⟨2, by unfold num; rw [if_pos hk, if_pos (Or.inr (Or.inr h2))], by omega, by omega, ?_⟩
          unfold flt
          refine ab_C_of (by decide) rfl (Nat.le_of_ble_eq_true rfl) hT ?_
          refine r_Reader_readNumber_0 hT _ _ (Nat.le_refl _) (Nat.le_refl _) ?_
          rw [es, r5, r6]
          exact bb_t k4 (bb_f n3 (bb_f n1 (bb_f (fun h => by have := (nI_leI (by omega) (by omega)).mp h; omega) (bb_t h7 rfl))))
        · refine Or.inr ⟨t.2.2.2, by unfold num; rw [if_pos hk, if_neg (by omega)], by omega, by omega, ?_⟩
          refine ab_C_of (by decide) rfl (Nat.le_of_ble_eq_true rfl) hT ?_
          refine r_Reader_readNumber_0 hT _ _ (Nat.le_refl _) (Nat.le_refl _) ?_
          rw [es, r6]
          exact bb_t k4 (bb_f n3 (bb_f n1 (bb_t ((nI_leI (by omega) (by omega)).mpr (by omega)) rfl)))
  · refine Or.inl ⟨1, by unfold num; rw [if_neg hk], by omega, by omega, ?_⟩
    unfold flt
    refine ab_C_of (by decide) rfl (Nat.le_of_ble_eq_true rfl) hT ?_
    refine r_Reader_readNumber_0 hT _ _ (Nat.le_refl _) (Nat.le_refl _) ?_
    rw [r5]
    exact bb_f (fun h => by rw [r4] at h; exact hk ((nI_eq (b := 2) (by omega) (by omega)).mp h)) (bb_t h7 rfl)
theorem k_site (hT : w.1.stackTraces = false) (hZ : Z ≤ 700) (ht : tOk Z t) (h : rAt I t) (h7 : I kx_reader 7 = 0) (hS : I kx_trial 0 = nI S) (h2 : 2 ≤ S) (h10 : S ≤ 10) : (∃ c a, sit t S = .inl (c, a) ∧ 1 ≤ c ∧ c ≤ 5 ∧ ∃ r, ab_PU w (d + 2) mt_Reader_readSite [.ref kx_reader] I L n nc ns r (flt I c a)) ∨ (∃ v, sit t S = .inr v ∧ v < S ∧ ab_P w (d + 2) mt_Reader_readSite [.ref kx_reader] I L n nc ns (nI v)) := by
  rcases k_num (d := d) (w := w) (n := n) (nc := nc) (ns := ns) (L := L) hT hZ ht h h7 (lo := 0) (hi := 9) (by omega) (by omega) with ⟨c, g1, g2, g3, g4⟩ | ⟨v, g1, g2, g3, g4⟩
  · refine Or.inl ⟨c, t.2.1, by unfold sit; rw [g1], g2, by omega, nI 0, ?_⟩
    refine ab_C_of (by decide) rfl (Nat.le_of_ble_eq_true rfl) hT ?_
    refine r_Reader_readSite_0 hT (Nat.le_refl _) (Nat.le_refl _) ?_
    refine ⟨_, _, g4, bb_t ?_ rfl⟩
    rw [show (flt I c t.2.1) kx_trial 0 = nI S by unfold flt; rw [ab_up_o (by decide), ab_up_o (by decide)]; exact hS]
    exact (nI_ltI (by omega) (by omega)).mpr (by omega)
  · by_cases e : v < S
    · refine Or.inr ⟨v, by unfold sit; rw [g1]; exact if_pos e, e, ?_⟩
      refine ab_C_of (by decide) rfl (Nat.le_of_ble_eq_true rfl) hT ?_
      refine r_Reader_readSite_0 hT (Nat.le_refl _) (Nat.le_refl _) ?_
      exact ⟨_, _, g4, bb_t (by rw [hS]; exact (nI_ltI (by omega) (by omega)).mpr e) rfl⟩
    · refine Or.inl ⟨3, t.2.1, by unfold sit; rw [g1]; exact if_neg e, by omega, by omega, nI v, ?_⟩
      unfold flt
      refine ab_C_of (by decide) rfl (Nat.le_of_ble_eq_true rfl) hT ?_
      refine r_Reader_readSite_0 hT (Nat.le_refl _) (Nat.le_refl _) ?_
      refine ⟨_, _, g4, bb_f (fun h => ?_) (bb_t h7 (by rw [h.2.1]; rfl))⟩
      rw [hS] at h
      exact e ((nI_ltI (by omega) (by omega)).mp h)
end RDC
