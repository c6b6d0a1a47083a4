/-! NET: the signs of a text, as the model reads them -/
section MTK
variable {w : ab_Wd} {d n nc ns : Nat} {I : Nat → Nat → Int32} {L : Nat → Nat → Int64}
variable {b : Nat → Nat} {Z : Nat}
def mmv (J I : Nat → Nat → Int32) : Prop := (∀ c, c ≠ mx → J c = I c) ∧ ∀ k, k ≠ 9 → k ≠ 11 → k ≠ 12 → k ≠ 13 → k ≠ 14 → J mx k = I mx k
theorem mmv_trans {K J I : Nat → Nat → Int32} (h : mmv K J) (g : mmv J I) : mmv K I := ⟨fun c hc => (h.1 c hc).trans (g.1 c hc), fun k h1 h2 h3 h4 h5 => (h.2 k h1 h2 h3 h4 h5).trans (g.2 k h1 h2 h3 h4 h5)⟩
theorem mmv_refl : mmv I I := ⟨fun _ _ => rfl, fun _ _ _ _ _ _ => rfl⟩
theorem mmv_up {J : Nat → Nat → Int32} {k : Nat} {x : Int32} (h : mmv J I) (hk : k = 9 ∨ k = 11 ∨ k = 12 ∨ k = 13 ∨ k = 14) : mmv (ab_up J mx k x) I := ⟨fun c hc => by rw [ab_up_o hc]; exact h.1 c hc, fun j h1 h2 h3 h4 h5 => by rw [ab_up_i, pk_un (by omega)]; exact h.2 j h1 h2 h3 h4 h5⟩
def mT (I : Nat → Nat → Int32) (b : Nat → Nat) (Z : Nat) : Prop := I mx 10 = nI Z ∧ Z ≤ 700 ∧ ∀ j, j < Z → b j < 256 ∧ I mx_tape j = nI (b j)
theorem mT_mv {J : Nat → Nat → Int32} (h : mmv J I) (g : mT I b Z) : mT J b Z := ⟨by rw [h.2 10 (by decide) (by decide) (by decide) (by decide) (by decide)]; exact g.1, g.2.1, fun j hj => by rw [h.1 mx_tape (by decide)]; exact g.2.2 j hj⟩
theorem z_word (hT : w.1.stackTraces = false) {v : Int32} : ∀ f p (I : Nat → Nat → Int32), mT I b Z → p ≤ Z → Z ≤ p + f → I mx 9 = nI p → ∃ J, (∀ c, c ≠ mx → J c = I c) ∧ (∀ k, k ≠ 9 → k ≠ 11 → k ≠ 14 → J mx k = I mx k) ∧ J mx 9 = nI (rnE b Z 97 122 f p) ∧ J mx 14 = nI (rnE b Z 97 122 f p) ∧ J mx 11 = 1 ∧ ab_E w (d + 1) mt_M_stepOn 76 [.ref mx, .int v] [] (I, L, ab_RR, n, nc, ns) (.inl none, (J, L, ab_RR, n, nc, ns)) := by
  intro f
  have fin : ∀ p (I : Nat → Nat → Int32), I mx 9 = nI p → (∀ c, c ≠ mx → (ab_up (ab_up I mx 11 1) mx 14 (I mx 9)) c = I c) ∧ (∀ k, k ≠ 9 → k ≠ 11 → k ≠ 14 → (ab_up (ab_up I mx 11 1) mx 14 (I mx 9)) mx k = I mx k) ∧ (ab_up (ab_up I mx 11 1) mx 14 (I mx 9)) mx 9 = nI p ∧ (ab_up (ab_up I mx 11 1) mx 14 (I mx 9)) mx 14 = nI p ∧ (ab_up (ab_up I mx 11 1) mx 14 (I mx 9)) mx 11 = 1 := fun p I h => ⟨fun c hc => by rw [ab_up_o hc, ab_up_o hc], fun k _ h2 h3 => by rw [ab_up_i, pk_un h3, ab_up_i, pk_un h2], by rw [ab_up_i, pk_un (by decide), ab_up_i, pk_un (by decide)]; exact h, by rw [ab_up_i, pk_us]; exact h, by rw [ab_up_i, pk_un (by decide), ab_up_i, pk_us]⟩
  induction f with
  | zero =>
    intro p I h h1 h2 h3
    have e : p = Z := by omega
    subst e
    obtain ⟨a1, a2, a3, a4, a5⟩ := fin p I h3
    refine ⟨_, a1, a2, a3, a4, a5, ?_⟩
    refine r_M_stepOn_76 hT _ (Nat.le_refl _) (Nat.le_refl _) ?_
    exact bb_t (by rw [h.1, h3]; exact nI_le (Nat.le_refl _) (by have := h.2.1; omega)) rfl
  | succ f ih =>
    intro p I h h1 h2 h3
    have hZ := h.2.1
    by_cases hp : p < Z
    · obtain ⟨t1, t2⟩ := h.2.2 p hp
      have c6 : ¬ nI Z ≤ nI p := fun h => by have := (nI_leI (by omega) (by omega)).mp h; omega
      by_cases e : 97 ≤ b p ∧ b p ≤ 122
      · have e1 : rnE b Z 97 122 (f + 1) p = rnE b Z 97 122 f (p + 1) := if_pos ⟨hp, e⟩
        obtain ⟨J, g1, g2, g3, g4, g5, g6⟩ := ih (p + 1) (ab_up I mx 9 (nI (p + 1))) (mT_mv (mmv_up mmv_refl (Or.inl rfl)) h) (by omega) (by omega) (by rw [ab_up_i, pk_us])
        refine ⟨J, fun c hc => by rw [g1 c hc, ab_up_o hc], fun k k1 k2 k3 => by rw [g2 k k1 k2 k3, ab_up_i, pk_un k1], by rw [e1]; exact g3, by rw [e1]; exact g4, g5, ?_⟩
        refine r_M_stepOn_76 hT _ (Nat.le_refl _) (Nat.le_refl _) ?_
        rw [h.1, h3, nI_clamp (by omega), t2, nI_1]
        exact bb_f c6 ⟨vp_in_nI (by omega) (by omega), bb_f (fun h => by have := (nI_ltI (b := 97) (by omega) (by omega)).mp h; omega) (bb_f (fun h => by have := (nI_ltI (a := 122) (by omega) (by omega)).mp h; omega) g6)⟩
      · have e1 : rnE b Z 97 122 (f + 1) p = p := if_neg (fun h => e h.2)
        obtain ⟨a1, a2, a3, a4, a5⟩ := fin p I h3
        refine ⟨_, a1, a2, by rw [e1]; exact a3, by rw [e1]; exact a4, a5, ?_⟩
        refine r_M_stepOn_76 hT _ (Nat.le_refl _) (Nat.le_refl _) ?_
        refine bb_f (by rw [h.1, h3]; exact c6) ⟨by rw [h3]; exact vp_in_nI (by omega) (by omega), ?_⟩
        have ev : I mx_tape (I mx 9).toNatClampNeg = nI (b p) := by rw [h3, nI_clamp (by omega)]; exact t2
        rw [ev]
        by_cases e2 : b p < 97
        · exact bb_t ((nI_ltI (b := 97) (by omega) (by omega)).mpr e2) rfl
        · exact bb_f (fun h => e2 ((nI_ltI (b := 97) (by omega) (by omega)).mp h)) (bb_t ((nI_ltI (a := 122) (by omega) (by omega)).mpr (by omega)) rfl)
    · have e : p = Z := by omega
      subst e
      have e1 : rnE b p 97 122 (f + 1) p = p := if_neg (fun h => absurd h.1 (Nat.lt_irrefl _))
      obtain ⟨a1, a2, a3, a4, a5⟩ := fin p I h3
      refine ⟨_, a1, a2, by rw [e1]; exact a3, by rw [e1]; exact a4, a5, ?_⟩
      refine r_M_stepOn_76 hT _ (Nat.le_refl _) (Nat.le_refl _) ?_
      exact bb_t (by rw [h.1, h3]; exact nI_le (Nat.le_refl _) (by omega)) rfl
theorem z_numb (hT : w.1.stackTraces = false) {v : Int32} : ∀ f p a (I : Nat → Nat → Int32), mT I b Z → p ≤ Z → Z ≤ p + f → a ≤ 100000 → I mx 9 = nI p → I mx 12 = nI a → ∃ J, (∀ c, c ≠ mx → J c = I c) ∧ (∀ k, k ≠ 9 → k ≠ 11 → k ≠ 12 → k ≠ 14 → J mx k = I mx k) ∧ J mx 9 = nI (rnE b Z 48 57 f p) ∧ J mx 14 = nI (rnE b Z 48 57 f p) ∧ J mx 11 = 2 ∧ J mx 12 = nI (nmE b Z f p a) ∧ ab_E w (d + 1) mt_M_stepOn 123 [.ref mx, .int v] [] (I, L, ab_RR, n, nc, ns) (.inl none, (J, L, ab_RR, n, nc, ns)) := by
  intro f
  have fin : ∀ p (I : Nat → Nat → Int32), I mx 9 = nI p → (∀ c, c ≠ mx → (ab_up (ab_up I mx 11 2) mx 14 (I mx 9)) c = I c) ∧ (∀ k, k ≠ 9 → k ≠ 11 → k ≠ 12 → k ≠ 14 → (ab_up (ab_up I mx 11 2) mx 14 (I mx 9)) mx k = I mx k) ∧ (ab_up (ab_up I mx 11 2) mx 14 (I mx 9)) mx 9 = nI p ∧ (ab_up (ab_up I mx 11 2) mx 14 (I mx 9)) mx 14 = nI p ∧ (ab_up (ab_up I mx 11 2) mx 14 (I mx 9)) mx 11 = 2 ∧ (ab_up (ab_up I mx 11 2) mx 14 (I mx 9)) mx 12 = I mx 12 := fun p I h => ⟨fun c hc => by rw [ab_up_o hc, ab_up_o hc], fun k _ h2 _ h3 => by rw [ab_up_i, pk_un h3, ab_up_i, pk_un h2], by rw [ab_up_i, pk_un (by decide), ab_up_i, pk_un (by decide)]; exact h, by rw [ab_up_i, pk_us]; exact h, by rw [ab_up_i, pk_un (by decide), ab_up_i, pk_us], by rw [ab_up_i, pk_un (by decide), ab_up_i, pk_un (by decide)]⟩
  induction f with
  | zero =>
    intro p a I h h1 h2 ha h3 h12
    have e : p = Z := by omega
    subst e
    obtain ⟨a1, a2, a3, a4, a5, a6⟩ := fin p I h3
    refine ⟨_, a1, a2, a3, a4, a5, by rw [a6]; exact h12, ?_⟩
    refine r_M_stepOn_123 hT _ (Nat.le_refl _) (Nat.le_refl _) ?_
    exact bb_t (by rw [h.1, h3]; exact nI_le (Nat.le_refl _) (by have := h.2.1; omega)) rfl
  | succ f ih =>
    intro p a I h h1 h2 ha h3 h12
    have hZ := h.2.1
    by_cases hp : p < Z
    · obtain ⟨t1, t2⟩ := h.2.2 p hp
      have c6 : ¬ nI Z ≤ nI p := fun h => by have := (nI_leI (by omega) (by omega)).mp h; omega
      by_cases e : 48 ≤ b p ∧ b p ≤ 57
      · have e1 : rnE b Z 48 57 (f + 1) p = rnE b Z 48 57 f (p + 1) := if_pos ⟨hp, e⟩
        have e2 : nmE b Z (f + 1) p a = nmE b Z f (p + 1) (min 100000 (10 * a + b p - 48)) := if_pos ⟨hp, e⟩
        obtain ⟨J, g1, g2, g3, g4, g5, g7, g6⟩ := ih (p + 1) (min 100000 (10 * a + b p - 48)) (ab_up (ab_up I mx 12 (nI (min 100000 (10 * a + b p - 48)))) mx 9 (nI (p + 1))) (mT_mv (mmv_up (mmv_up mmv_refl (by omega)) (Or.inl rfl)) h) (by omega) (by omega) (by omega) (by rw [ab_up_i, pk_us]) (by rw [ab_up_i, pk_un (by decide), ab_up_i, pk_us])
        refine ⟨J, fun c hc => by rw [g1 c hc, ab_up_o hc, ab_up_o hc], fun k k1 k2 k3 k4 => by rw [g2 k k1 k2 k3 k4, ab_up_i, pk_un k1, ab_up_i, pk_un k3], by rw [e1]; exact g3, by rw [e1]; exact g4, g5, by rw [e2]; exact g7, ?_⟩
        have ev : ab_min32 100000 (((10 * nI a) + nI (b p)) - 48) = nI (min 100000 (10 * a + b p - 48)) := by
          rw [show (10 : Int32) * nI a = nI (10 * a) from nI_mul 10 a, nI_add, show (48 : Int32) = nI 48 from rfl, nI_sub (by omega), show (100000 : Int32) = nI 100000 from rfl, ab_min_nI (by omega) (by omega)]
        refine r_M_stepOn_123 hT _ (Nat.le_refl _) (Nat.le_refl _) ?_
        rw [h.1, h3, nI_clamp (by omega), t2, h12, ev, nI_1]
        exact bb_f c6 ⟨vp_in_nI (by omega) (by omega), bb_f (fun h => by have := (nI_ltI (b := 48) (by omega) (by omega)).mp h; omega) (bb_f (fun h => by have := (nI_ltI (a := 57) (by omega) (by omega)).mp h; omega) g6)⟩
      · have e1 : rnE b Z 48 57 (f + 1) p = p := if_neg (fun h => e h.2)
        have e2 : nmE b Z (f + 1) p a = a := if_neg (fun h => e h.2)
        obtain ⟨a1, a2, a3, a4, a5, a6⟩ := fin p I h3
        refine ⟨_, a1, a2, by rw [e1]; exact a3, by rw [e1]; exact a4, a5, by rw [a6, e2]; exact h12, ?_⟩
        refine r_M_stepOn_123 hT _ (Nat.le_refl _) (Nat.le_refl _) ?_
        refine bb_f (by rw [h.1, h3]; exact c6) ⟨by rw [h3]; exact vp_in_nI (by omega) (by omega), ?_⟩
        have ev : I mx_tape (I mx 9).toNatClampNeg = nI (b p) := by rw [h3, nI_clamp (by omega)]; exact t2
        rw [ev]
        by_cases e2 : b p < 48
        · exact bb_t ((nI_ltI (b := 48) (by omega) (by omega)).mpr e2) rfl
        · exact bb_f (fun h => e2 ((nI_ltI (b := 48) (by omega) (by omega)).mp h)) (bb_t ((nI_ltI (a := 57) (by omega) (by omega)).mpr (by omega)) rfl)
    · have e : p = Z := by omega
      subst e
      have e1 : rnE b p 48 57 (f + 1) p = p := if_neg (fun h => absurd h.1 (Nat.lt_irrefl _))
      have e2 : nmE b p (f + 1) p a = a := if_neg (fun h => absurd h.1 (Nat.lt_irrefl _))
      obtain ⟨a1, a2, a3, a4, a5, a6⟩ := fin p I h3
      refine ⟨_, a1, a2, by rw [e1]; exact a3, by rw [e1]; exact a4, a5, by rw [a6, e2]; exact h12, ?_⟩
      refine r_M_stepOn_123 hT _ (Nat.le_refl _) (Nat.le_refl _) ?_
      exact bb_t (by rw [h.1, h3]; exact nI_le (Nat.le_refl _) (by omega)) rfl
/-- the model stands at a sign -/
def mAt (I : Nat → Nat → Int32) (t : Tk) : Prop := I mx 11 = nI t.1 ∧ I mx 13 = nI t.2.1 ∧ I mx 9 = nI t.2.2.1 ∧ I mx 14 = nI t.2.2.1 ∧ (t.1 = 2 → t.2.2.1 ≤ t.2.1 + 3 → I mx 12 = nI t.2.2.2)
theorem z_stepE (hT : w.1.stackTraces = false) {p0 : Nat} (hp0 : p0 ≤ Z) : ∀ f p (I : Nat → Nat → Int32), mT I b Z → p ≤ Z → Z ≤ p + f → skp b Z f p = skp b Z 700 p0 → I mx 9 = nI p → ∃ J, mmv J I ∧ mAt J (tk b Z p0) ∧ ab_E w (d + 1) mt_M_stepOn 0 [.ref mx, .null] [] (I, L, ab_RR, n, nc, ns) (.inl none, (J, L, ab_RR, n, nc, ns)) := by
  intro f
  induction f with
  | zero =>
    intro p I h h1 h2 h0 h3
    have e : p = Z := by omega
    subst e
    have h0 : p = skp b p 700 p0 := h0
    have hZ := h.2.1
    rcases tk_cs (b := b) (Z := p) (p := p0) with ⟨g1, e⟩ | ⟨g1, _⟩ | ⟨g1, _⟩ | ⟨g1, _⟩
    · rw [e, ← h0]
      refine ⟨ab_up (ab_up (ab_up I mx 13 (I mx 9)) mx 11 0) mx 14 (I mx 9), mmv_up (mmv_up (mmv_up mmv_refl (by omega)) (by omega)) (by omega), ⟨by rw [ab_up_i, pk_un (by decide), ab_up_i, pk_us]; rfl, by rw [ab_up_i, pk_un (by decide), ab_up_i, pk_un (by decide), ab_up_i, pk_us]; exact h3, by rw [ab_up_i, pk_un (by decide), ab_up_i, pk_un (by decide), ab_up_i, pk_un (by decide)]; exact h3, by rw [ab_up_i, pk_us]; exact h3, fun h => absurd h (show ¬ (0 : Nat) = 2 by omega)⟩, ?_⟩
      refine r_M_stepOn_0 hT (Nat.le_refl _) (Nat.le_refl _) ?_
      exact bb_t (by rw [h.1, h3]; exact nI_le (Nat.le_refl _) (by omega)) rfl
    · rw [← h0] at g1; omega
    · rw [← h0] at g1; omega
    · rw [← h0] at g1; omega
  | succ f ih =>
    intro p I h h1 h2 h0 h3
    have hZ := h.2.1
    by_cases hs : p < Z ∧ (b p = 32 ∨ b p = 10)
    · have e1 : skp b Z (f + 1) p = skp b Z f (p + 1) := if_pos hs
      rw [e1] at h0
      obtain ⟨t1, t2⟩ := h.2.2 p hs.1
      obtain ⟨J, g1, g2, g3⟩ := ih (p + 1) (ab_up I mx 9 (nI (p + 1))) (mT_mv (mmv_up mmv_refl (Or.inl rfl)) h) (by omega) (by omega) h0 (by rw [ab_up_i, pk_us])
      refine ⟨J, mmv_trans g1 (mmv_up mmv_refl (Or.inl rfl)), g2, ?_⟩
      refine r_M_stepOn_0 hT (Nat.le_refl _) (Nat.le_refl _) ?_
      rw [h.1, h3, nI_clamp (by omega), t2, nI_1]
      refine bb_f (fun h => by have := (nI_leI (by omega) (by omega)).mp h; omega) ⟨vp_in_nI (by omega) (by omega), ?_⟩
      by_cases e32 : b p = 32
      · exact bb_t (by rw [e32]; rfl) g3
      · exact bb_f (fun h => e32 ((nI_eq (b := 32) (by omega) (by omega)).mp h)) (bb_t' (by rw [show b p = 10 by omega]; rfl) g3)
    · have e1 : skp b Z (f + 1) p = p := if_neg hs
      rw [e1] at h0
      rcases tk_cs (b := b) (Z := Z) (p := p0) with ⟨g1, e⟩ | ⟨g1, g2, e⟩ | ⟨g1, g2, e⟩ | ⟨g1, g2, g3, e⟩ <;> rw [← h0] at e g1
      · have ep : p = Z := by omega
        subst ep
        rw [e]
        refine ⟨ab_up (ab_up (ab_up I mx 13 (I mx 9)) mx 11 0) mx 14 (I mx 9), mmv_up (mmv_up (mmv_up mmv_refl (by omega)) (by omega)) (by omega), ⟨by rw [ab_up_i, pk_un (by decide), ab_up_i, pk_us]; rfl, by rw [ab_up_i, pk_un (by decide), ab_up_i, pk_un (by decide), ab_up_i, pk_us]; exact h3, by rw [ab_up_i, pk_un (by decide), ab_up_i, pk_un (by decide), ab_up_i, pk_un (by decide)]; exact h3, by rw [ab_up_i, pk_us]; exact h3, fun h => absurd h (show ¬ (0 : Nat) = 2 by omega)⟩, ?_⟩
        refine r_M_stepOn_0 hT (Nat.le_refl _) (Nat.le_refl _) ?_
        exact bb_t (by rw [h.1, h3]; exact nI_le (Nat.le_refl _) (by omega)) rfl
      all_goals
        obtain ⟨t1, t2⟩ := h.2.2 p g1
        rw [← h0] at g2
        have c6 : ¬ nI Z ≤ nI p := fun h => by have := (nI_leI (by omega) (by omega)).mp h; omega
        have c3 : ¬ nI (b p) = 32 := fun h => by have := (nI_eq (b := 32) (by omega) (by omega)).mp h; omega
        have c4 : ¬ nI (b p) = 10 := fun h => by have := (nI_eq (b := 10) (by omega) (by omega)).mp h; omega
        have c7 : ¬ nI (b p) = -1 := nI_m1 (by omega)
        have l97 : nI (b p) < 97 ↔ b p < 97 := nI_ltI (b := 97) (by omega) (by omega)
        have l48 : nI (b p) < 48 ↔ b p < 48 := nI_ltI (b := 48) (by omega) (by omega)
        have l122 : 122 < nI (b p) ↔ 122 < b p := nI_ltI (a := 122) (by omega) (by omega)
        have l57 : 57 < nI (b p) ↔ 57 < b p := nI_ltI (a := 57) (by omega) (by omega)
        have l59 : nI (b p) = 59 ↔ b p = 59 := nI_eq (b := 59) (by omega) (by omega)
        rw [e]
      · have mv : mmv (ab_up I mx 13 (nI p)) I := mmv_up mmv_refl (by omega)
        obtain ⟨J, j1, j2, j3, j4, j5, j6⟩ := z_word (d := d) (w := w) (n := n) (nc := nc) (ns := ns) (L := L) (b := b) (Z := Z) (v := nI (b p)) hT 700 p (ab_up I mx 13 (nI p)) (mT_mv mv h) h1 (by omega) (by rw [ab_up_i, pk_un (by decide)]; exact h3)
        refine ⟨J, mmv_trans ⟨j1, fun k k1 k2 _ _ k5 => j2 k k1 k2 k5⟩ mv, ⟨j5, by rw [j2 13 (by decide) (by decide) (by decide), ab_up_i, pk_us], j3, j4, fun h => absurd h (show ¬ (1 : Nat) = 2 by omega)⟩, ?_⟩
        refine r_M_stepOn_0 hT (Nat.le_refl _) (Nat.le_refl _) ?_
        rw [h.1, h3, nI_clamp (by omega), t2]
        exact bb_f c6 ⟨vp_in_nI (by omega) (by omega), bb_f c3 (bb_f' c4 (bb_f' c7 (bb_f (fun h => by have := l97.mp h; omega) (bb_f (fun h => by have := l122.mp h; omega) j6))))⟩
      · have mv : mmv (ab_up (ab_up I mx 13 (nI p)) mx 12 0) I := mmv_up (mmv_up mmv_refl (by omega)) (by omega)
        obtain ⟨J, j1, j2, j3, j4, j5, j7, j6⟩ := z_numb (d := d) (w := w) (n := n) (nc := nc) (ns := ns) (L := L) (b := b) (Z := Z) (v := nI (b p)) hT 700 p 0 (ab_up (ab_up I mx 13 (nI p)) mx 12 0) (mT_mv mv h) h1 (by omega) (by omega) (by rw [ab_up_i, pk_un (by decide), ab_up_i, pk_un (by decide)]; exact h3) (by rw [ab_up_i, pk_us]; rfl)
        refine ⟨J, mmv_trans ⟨j1, fun k k1 k2 k3 _ k5 => j2 k k1 k2 k3 k5⟩ mv, ⟨j5, by rw [j2 13 (by decide) (by decide) (by decide) (by decide), ab_up_i, pk_un (by decide), ab_up_i, pk_us], j3, j4, fun _ h3' => by rw [j7]; exact congrArg nI (vlE_nm 700 p 0 (Nat.le_refl _) h1 (by rw [Nat.sub_self]; decide) h3').1⟩, ?_⟩
        refine r_M_stepOn_0 hT (Nat.le_refl _) (Nat.le_refl _) ?_
        rw [h.1, h3, nI_clamp (by omega), t2]
        exact bb_f c6 ⟨vp_in_nI (by omega) (by omega), bb_f c3 (bb_f' c4 (bb_f' c7 (bb_t (l97.mpr (by omega)) (bb_f (fun h => by have := l48.mp h; omega) (bb_f (fun h => by have := l57.mp h; omega) j6)))))⟩
      · rw [← h0] at g3
        refine ⟨ab_up (ab_up (ab_up (ab_up I mx 13 (nI p)) mx 9 (nI (p + 1))) mx 11 (nI (if b p = 59 then 3 else 4))) mx 14 (nI (p + 1)), mmv_up (mmv_up (mmv_up (mmv_up mmv_refl (by omega)) (by omega)) (by omega)) (by omega), ⟨by rw [ab_up_i, pk_un (by decide), ab_up_i, pk_us], by rw [ab_up_i, pk_un (by decide), ab_up_i, pk_un (by decide), ab_up_i, pk_un (by decide), ab_up_i, pk_us], by rw [ab_up_i, pk_un (by decide), ab_up_i, pk_un (by decide), ab_up_i, pk_us], by rw [ab_up_i, pk_us], fun h => ?_⟩, ?_⟩
        · have h : (if b p = 59 then 3 else 4) = 2 := h
          split at h <;> omega
        · refine r_M_stepOn_0 hT (Nat.le_refl _) (Nat.le_refl _) ?_
          rw [h.1, h3, nI_clamp (by omega), t2, nI_1]
          refine bb_f c6 ⟨vp_in_nI (by omega) (by omega), bb_f c3 (bb_f' c4 (bb_f' c7 ?_))⟩
          have last : ∀ {X Y : Prop}, (b p = 59 → Y) → (¬ b p = 59 → X) → (¬ nI (b p) = 59 → X) ∧ (nI (b p) = 59 → Y) := fun h1 h2 => ⟨fun h => h2 (fun e => h (l59.mpr e)), fun h => h1 (l59.mp h)⟩
          have fin : ∀ {X Y : Prop}, (b p = 59 → Y) → (¬ b p = 59 → X) → ∀ {D : Prop}, ((nI (b p) < 48 → ((¬ nI (b p) = 59 → X) ∧ (nI (b p) = 59 → Y))) ∧ (¬ nI (b p) < 48 → ((57 < nI (b p) → ((¬ nI (b p) = 59 → X) ∧ (nI (b p) = 59 → Y))) ∧ (¬ 57 < nI (b p) → D)))) := fun {X Y} h1 h2 {D} => by
            by_cases e1 : nI (b p) < 48
            · exact bb_t e1 (last h1 h2)
            · refine bb_f e1 (bb_t (l57.mpr ?_) (last h1 h2))
              have : ¬ b p < 48 := fun h => e1 (l48.mpr h)
              omega
          by_cases e1 : nI (b p) < 97
          · exact bb_t e1 (fin (fun e => by rw [if_pos e]; rfl) (fun e => by rw [if_neg e]; rfl))
          · refine bb_f e1 (bb_t (l122.mpr ?_) (fin (fun e => by rw [if_pos e]; rfl) (fun e => by rw [if_neg e]; rfl)))
            have : ¬ b p < 97 := fun h => e1 (l97.mpr h)
            omega
theorem z_next (hT : w.1.stackTraces = false) {p : Nat} (h : mT I b Z) (hp : p ≤ Z) (h3 : I mx 9 = nI p) : ∃ J, mmv J I ∧ mAt J (tk b Z p) ∧ ab_U w (d + 1) mt_M_stepOn [.ref mx] I L n nc ns J := by
  obtain ⟨J, g1, g2, g3⟩ := z_stepE (d := d) (w := w) (n := n) (nc := nc) (ns := ns) (L := L) hT hp 700 p I h hp (by have := h.2.1; omega) rfl h3
  refine ⟨J, g1, g2, ?_⟩
  refine ab_C_of (by decide) rfl (Nat.le_of_ble_eq_true rfl) hT ?_
  exact g3
end MTK
