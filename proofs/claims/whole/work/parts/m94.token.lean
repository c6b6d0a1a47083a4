/-! NET: the signs of a text -/
def skp (b : Nat → Nat) (Z : Nat) : Nat → Nat → Nat
  | 0, p => p
  | f + 1, p => if p < Z ∧ (b p = 32 ∨ b p = 10) then skp b Z f (p + 1) else p
def rnE (b : Nat → Nat) (Z lo hi : Nat) : Nat → Nat → Nat
  | 0, p => p
  | f + 1, p => if p < Z ∧ lo ≤ b p ∧ b p ≤ hi then rnE b Z lo hi f (p + 1) else p
def vlE (b : Nat → Nat) (Z q : Nat) : Nat → Nat → Nat → Nat
  | 0, _, a => a
  | f + 1, p, a => if p < Z ∧ 48 ≤ b p ∧ b p ≤ 57 then vlE b Z q f (p + 1) (if p < q + 3 then a * 10 + b p - 48 else a) else a
def nmE (b : Nat → Nat) (Z : Nat) : Nat → Nat → Nat → Nat
  | 0, _, a => a
  | f + 1, p, a => if p < Z ∧ 48 ≤ b p ∧ b p ≤ 57 then nmE b Z f (p + 1) (min 100000 (10 * a + b p - 48)) else a
/-- kind, beginning, end, value -/
abbrev Tk : Type := Nat × Nat × Nat × Nat
def tk (b : Nat → Nat) (Z p : Nat) : Tk := if Z ≤ skp b Z 700 p then (0, skp b Z 700 p, skp b Z 700 p, 0) else if 97 ≤ b (skp b Z 700 p) ∧ b (skp b Z 700 p) ≤ 122 then (1, skp b Z 700 p, rnE b Z 97 122 700 (skp b Z 700 p), 0) else if 48 ≤ b (skp b Z 700 p) ∧ b (skp b Z 700 p) ≤ 57 then (2, skp b Z 700 p, rnE b Z 48 57 700 (skp b Z 700 p), vlE b Z (skp b Z 700 p) 700 (skp b Z 700 p) 0) else ((if b (skp b Z 700 p) = 59 then 3 else 4), skp b Z 700 p, skp b Z 700 p + 1, 0)
theorem skp_b {b : Nat → Nat} {Z : Nat} : ∀ f p, p ≤ Z → p ≤ skp b Z f p ∧ skp b Z f p ≤ Z := by
  intro f
  induction f with
  | zero => intro p h; exact ⟨Nat.le_refl _, h⟩
  | succ f ih =>
    intro p h
    by_cases e : p < Z ∧ (b p = 32 ∨ b p = 10)
    · have e2 : skp b Z (f + 1) p = skp b Z f (p + 1) := if_pos e
      have := ih (p + 1) (by omega)
      rw [e2]; omega
    · have e2 : skp b Z (f + 1) p = p := if_neg e
      rw [e2]; omega
theorem rnE_b {b : Nat → Nat} {Z lo hi : Nat} : ∀ f p, p ≤ Z → p ≤ rnE b Z lo hi f p ∧ rnE b Z lo hi f p ≤ Z := by
  intro f
  induction f with
  | zero => intro p h; exact ⟨Nat.le_refl _, h⟩
  | succ f ih =>
    intro p h
    by_cases e : p < Z ∧ lo ≤ b p ∧ b p ≤ hi
    · have e2 : rnE b Z lo hi (f + 1) p = rnE b Z lo hi f (p + 1) := if_pos e
      have := ih (p + 1) (by omega)
      rw [e2]; omega
    · have e2 : rnE b Z lo hi (f + 1) p = p := if_neg e
      rw [e2]; omega
theorem rnE_1 {b : Nat → Nat} {Z lo hi p : Nat} (h : p < Z ∧ lo ≤ b p ∧ b p ≤ hi) : p + 1 ≤ rnE b Z lo hi 700 p := by
  have e2 : rnE b Z lo hi 700 p = rnE b Z lo hi 699 (p + 1) := if_pos h
  rw [e2]; exact (rnE_b _ _ (by omega)).1
theorem vlE_nm {b : Nat → Nat} {Z q : Nat} : ∀ f p a, q ≤ p → p ≤ Z → a < 10 ^ (p - q) → rnE b Z 48 57 f p ≤ q + 3 → nmE b Z f p a = vlE b Z q f p a ∧ vlE b Z q f p a ≤ 999 := by
  intro f
  induction f with
  | zero =>
    intro p a h1 h2 h3 h4
    have h4 : p ≤ q + 3 := h4
    have : 10 ^ (p - q) ≤ 10 ^ 3 := Nat.pow_le_pow_right (by omega) (by omega)
    exact ⟨rfl, by show a ≤ 999; omega⟩
  | succ f ih =>
    intro p a h1 h2 h3 h4
    by_cases e : p < Z ∧ 48 ≤ b p ∧ b p ≤ 57
    · have e1 : rnE b Z 48 57 (f + 1) p = rnE b Z 48 57 f (p + 1) := if_pos e
      rw [e1] at h4
      have g := rnE_b (b := b) (lo := 48) (hi := 57) f (p + 1) (Z := Z) (by omega)
      have hp : p < q + 3 := by omega
      have e2 : vlE b Z q (f + 1) p a = vlE b Z q f (p + 1) (if p < q + 3 then a * 10 + b p - 48 else a) := if_pos e
      have e3 : nmE b Z (f + 1) p a = nmE b Z f (p + 1) (min 100000 (10 * a + b p - 48)) := if_pos e
      have h100 : 10 ^ (p - q) ≤ 10 ^ 2 := Nat.pow_le_pow_right (by omega) (by omega)
      have e10 : 10 ^ (p + 1 - q) = 10 * 10 ^ (p - q) := by rw [show p + 1 - q = (p - q) + 1 by omega, Nat.pow_succ, Nat.mul_comm]
      rw [e2, e3, if_pos hp, show min 100000 (10 * a + b p - 48) = a * 10 + b p - 48 by omega]
      exact ih (p + 1) _ (by omega) (by omega) (by rw [e10]; omega) h4
    · have e1 : rnE b Z 48 57 (f + 1) p = p := if_neg e
      rw [e1] at h4
      have e2 : vlE b Z q (f + 1) p a = a := if_neg e
      have e3 : nmE b Z (f + 1) p a = a := if_neg e
      have : 10 ^ (p - q) ≤ 10 ^ 3 := Nat.pow_le_pow_right (by omega) (by omega)
      rw [e2, e3]
      exact ⟨rfl, by omega⟩
/-- the four kinds -/
theorem tk_cs {b : Nat → Nat} {Z p : Nat} : (Z ≤ skp b Z 700 p ∧ tk b Z p = (0, skp b Z 700 p, skp b Z 700 p, 0)) ∨ (skp b Z 700 p < Z ∧ (97 ≤ b (skp b Z 700 p) ∧ b (skp b Z 700 p) ≤ 122) ∧ tk b Z p = (1, skp b Z 700 p, rnE b Z 97 122 700 (skp b Z 700 p), 0)) ∨ (skp b Z 700 p < Z ∧ (48 ≤ b (skp b Z 700 p) ∧ b (skp b Z 700 p) ≤ 57) ∧ tk b Z p = (2, skp b Z 700 p, rnE b Z 48 57 700 (skp b Z 700 p), vlE b Z (skp b Z 700 p) 700 (skp b Z 700 p) 0)) ∨ (skp b Z 700 p < Z ∧ ¬ (97 ≤ b (skp b Z 700 p) ∧ b (skp b Z 700 p) ≤ 122) ∧ ¬ (48 ≤ b (skp b Z 700 p) ∧ b (skp b Z 700 p) ≤ 57) ∧ tk b Z p = ((if b (skp b Z 700 p) = 59 then 3 else 4), skp b Z 700 p, skp b Z 700 p + 1, 0)) := by
  unfold tk
  by_cases h1 : Z ≤ skp b Z 700 p
  · exact Or.inl ⟨h1, if_pos h1⟩
  · right
    rw [if_neg h1]
    by_cases h2 : 97 ≤ b (skp b Z 700 p) ∧ b (skp b Z 700 p) ≤ 122
    · exact Or.inl ⟨by omega, h2, if_pos h2⟩
    · right
      rw [if_neg h2]
      by_cases h3 : 48 ≤ b (skp b Z 700 p) ∧ b (skp b Z 700 p) ≤ 57
      · exact Or.inl ⟨by omega, h3, if_pos h3⟩
      · exact Or.inr ⟨by omega, h2, h3, if_neg h3⟩
theorem tk_b {b : Nat → Nat} {Z p : Nat} (hp : p ≤ Z) : (tk b Z p).1 ≤ 4 ∧ p ≤ (tk b Z p).2.1 ∧ (tk b Z p).2.1 ≤ (tk b Z p).2.2.1 ∧ (tk b Z p).2.2.1 ≤ Z ∧ ((tk b Z p).1 ≠ 0 → (tk b Z p).2.1 < (tk b Z p).2.2.1) ∧ ((tk b Z p).1 = 2 → (tk b Z p).2.2.1 ≤ (tk b Z p).2.1 + 3 → (tk b Z p).2.2.2 ≤ 999) := by
  have s := skp_b (b := b) 700 p hp
  rcases tk_cs (b := b) (Z := Z) (p := p) with ⟨h1, e⟩ | ⟨h1, h2, e⟩ | ⟨h1, h2, e⟩ | ⟨h1, h2, h3, e⟩
  · rw [e]; refine ⟨by show 0 ≤ 4; omega, s.1, Nat.le_refl _, s.2, fun h => absurd rfl h, fun h => ?_⟩
    exact absurd h (show ¬ (0 : Nat) = 2 by omega)
  · have r := rnE_b (b := b) (lo := 97) (hi := 122) 700 _ s.2
    have r1 := rnE_1 (b := b) (lo := 97) (hi := 122) ⟨h1, h2⟩
    rw [e]; exact ⟨by show 1 ≤ 4; omega, s.1, r.1, r.2, fun _ => r1, fun h => absurd h (show ¬ (1 : Nat) = 2 by omega)⟩
  · have r := rnE_b (b := b) (lo := 48) (hi := 57) 700 _ s.2
    have r1 := rnE_1 (b := b) (lo := 48) (hi := 57) ⟨h1, h2⟩
    rw [e]; exact ⟨by show 2 ≤ 4; omega, s.1, r.1, r.2, fun _ => r1, fun _ h => (vlE_nm 700 _ 0 (Nat.le_refl _) s.2 (by rw [Nat.sub_self]; decide) h).2⟩
  · rw [e]
    refine ⟨?_, s.1, by show skp b Z 700 p ≤ skp b Z 700 p + 1; omega, h1, fun _ => by show skp b Z 700 p < skp b Z 700 p + 1; omega, fun h => ?_⟩
    · show (if b (skp b Z 700 p) = 59 then 3 else 4) ≤ 4
      split <;> omega
    · have h : (if b (skp b Z 700 p) = 59 then 3 else 4) = 2 := h
      split at h <;> omega
theorem sbyte_cmp : ∀ b, b < 256 → (sb b < 97 ↔ b < 97 ∨ 128 ≤ b) ∧ (122 < sb b ↔ 122 < b ∧ b < 128) ∧ (sb b < 48 ↔ b < 48 ∨ 128 ≤ b) ∧ (57 < sb b ↔ 57 < b ∧ b < 128) ∧ (sb b = 59 ↔ b = 59) ∧ (sb b = 32 ↔ b = 32) ∧ (sb b = 10 ↔ b = 10) := by decide +kernel
section TKN
variable {w : ab_Wd} {d n nc ns : Nat} {I : Nat → Nat → Int32} {L : Nat → Nat → Int64}
variable {b : Nat → Nat} {Z : Nat}
/-- the reader has gone on -/
def rmv (J I : Nat → Nat → Int32) : Prop := (∀ c, c ≠ kx_reader → J c = I c) ∧ ∀ k, k ≠ 3 → k ≠ 4 → k ≠ 5 → k ≠ 6 → J kx_reader k = I kx_reader k
theorem rmv_trans {K J I : Nat → Nat → Int32} (h : rmv K J) (g : rmv J I) : rmv K I := ⟨fun c hc => (h.1 c hc).trans (g.1 c hc), fun k h1 h2 h3 h4 => (h.2 k h1 h2 h3 h4).trans (g.2 k h1 h2 h3 h4)⟩
theorem rmv_refl : rmv I I := ⟨fun _ _ => rfl, fun _ _ _ _ _ => rfl⟩
theorem rmv_up {J : Nat → Nat → Int32} {k : Nat} {x : Int32} (h : rmv J I) (hk : k = 3 ∨ k = 4 ∨ k = 5 ∨ k = 6) : rmv (ab_up J kx_reader k x) I := ⟨fun c hc => by rw [ab_up_o hc]; exact h.1 c hc, fun j h1 h2 h3 h4 => by rw [ab_up_i, pk_un (by omega)]; exact h.2 j h1 h2 h3 h4⟩
/-- the text, as the class has it -/
def cT (I : Nat → Nat → Int32) (b : Nat → Nat) (Z : Nat) : Prop := I kx_reader 1 = nI Z ∧ Z ≤ 700 ∧ ∀ j, j < Z → b j < 256 ∧ I kx_tape j = sb (b j)
theorem cT_mv {J : Nat → Nat → Int32} (h : rmv J I) (g : cT I b Z) : cT J b Z := ⟨by rw [h.2 1 (by decide) (by decide) (by decide) (by decide)]; exact g.1, g.2.1, fun j hj => by rw [h.1 kx_tape (by decide)]; exact g.2.2 j hj⟩
theorem k_passWord (hT : w.1.stackTraces = false) : ∀ f p (I : Nat → Nat → Int32), cT I b Z → p ≤ Z → Z ≤ p + f → I kx_reader 3 = nI p → ∃ J, (∀ c, c ≠ kx_reader → J c = I c) ∧ (∀ k, k ≠ 3 → J kx_reader k = I kx_reader k) ∧ J kx_reader 3 = nI (rnE b Z 97 122 f p) ∧ ab_E w (d + 1) mt_Reader_passWord 0 [.ref kx_reader] [] (I, L, ab_RR, n, nc, ns) (.inl none, (J, L, ab_RR, n, nc, ns)) := by
  intro f
  induction f with
  | zero =>
    intro p I h h1 h2 h3
    have e : p = Z := by omega
    subst e
    refine ⟨I, fun _ _ => rfl, fun _ _ => rfl, h3, ?_⟩
    refine r_Reader_passWord_0 hT (Nat.le_refl _) (Nat.le_refl _) ?_
    rw [h.1, h3]
    exact bb_t (nI_le (Nat.le_refl _) (by have := h.2.1; omega)) rfl
  | succ f ih =>
    intro p I h h1 h2 h3
    have hZ := h.2.1
    by_cases hp : p < Z
    · obtain ⟨t1, t2⟩ := h.2.2 p hp
      obtain ⟨s1, s2, s3, s4, s5, s6, s7⟩ := sbyte_cmp _ t1
      by_cases e : 97 ≤ b p ∧ b p ≤ 122
      · have e1 : rnE b Z 97 122 (f + 1) p = rnE b Z 97 122 f (p + 1) := if_pos ⟨hp, e⟩
        obtain ⟨J, g1, g2, g3, g4⟩ := ih (p + 1) (ab_up I kx_reader 3 (nI (p + 1))) (cT_mv (rmv_up rmv_refl (Or.inl rfl)) h) (by omega) (by omega) (by rw [ab_up_i, pk_us])
        refine ⟨J, fun c hc => by rw [g1 c hc, ab_up_o hc], fun k hk => by rw [g2 k hk, ab_up_i, pk_un hk], by rw [e1]; exact g3, ?_⟩
        refine r_Reader_passWord_0 hT (Nat.le_refl _) (Nat.le_refl _) ?_
        rw [h.1, h3, nI_clamp (by omega), t2, nI_1]
        exact bb_f (fun h => by have := (nI_leI (by omega) (by omega)).mp h; omega) ⟨vp_in_nI (by omega) (by omega), bb_f (fun h => by have := s1.mp h; omega) (bb_f (fun h => by have := s2.mp h; omega) g4)⟩
      · have e1 : rnE b Z 97 122 (f + 1) p = p := if_neg (fun h => e h.2)
        refine ⟨I, fun _ _ => rfl, fun _ _ => rfl, by rw [e1]; exact h3, ?_⟩
        refine r_Reader_passWord_0 hT (Nat.le_refl _) (Nat.le_refl _) ?_
        rw [h.1, h3, nI_clamp (by omega), t2]
        refine bb_f (fun h => by have := (nI_leI (by omega) (by omega)).mp h; omega) ⟨vp_in_nI (by omega) (by omega), ?_⟩
        by_cases e2 : sb (b p) < 97
        · exact bb_t e2 rfl
        · exact bb_f e2 (bb_t (s2.mpr (by have : ¬ (b p < 97 ∨ 128 ≤ b p) := fun h => e2 (s1.mpr h); omega)) rfl)
    · have e : p = Z := by omega
      subst e
      have e1 : rnE b p 97 122 (f + 1) p = p := if_neg (fun h => absurd h.1 (Nat.lt_irrefl _))
      refine ⟨I, fun _ _ => rfl, fun _ _ => rfl, by rw [e1]; exact h3, ?_⟩
      refine r_Reader_passWord_0 hT (Nat.le_refl _) (Nat.le_refl _) ?_
      rw [h.1, h3]
      exact bb_t (nI_le (Nat.le_refl _) (by omega)) rfl
/-- the value, as it is reckoned, an int: beyond three signs it doesn't grow -/
theorem k_passNumber (hT : w.1.stackTraces = false) {q : Nat} : ∀ f p a (I : Nat → Nat → Int32), cT I b Z → q ≤ p → p ≤ Z → Z ≤ p + f → I kx_reader 3 = nI p → I kx_reader 5 = nI q → I kx_reader 6 = nI a → ∃ J, (∀ c, c ≠ kx_reader → J c = I c) ∧ (∀ k, k ≠ 3 → k ≠ 6 → J kx_reader k = I kx_reader k) ∧ J kx_reader 3 = nI (rnE b Z 48 57 f p) ∧ J kx_reader 6 = nI (vlE b Z q f p a) ∧ ab_E w (d + 1) mt_Reader_passNumber 5 [.ref kx_reader] [] (I, L, ab_RR, n, nc, ns) (.inl none, (J, L, ab_RR, n, nc, ns)) := by
  intro f
  induction f with
  | zero =>
    intro p a I h hq h1 h2 h3 h5 h6
    have e : p = Z := by omega
    subst e
    refine ⟨I, fun _ _ => rfl, fun _ _ _ => rfl, h3, h6, ?_⟩
    refine r_Reader_passNumber_5 hT (Nat.le_refl _) (Nat.le_refl _) ?_
    rw [h.1, h3]
    exact bb_t (nI_le (Nat.le_refl _) (by have := h.2.1; omega)) rfl
  | succ f ih =>
    intro p a I h hq h1 h2 h3 h5 h6
    have hZ := h.2.1
    by_cases hp : p < Z
    · obtain ⟨t1, t2⟩ := h.2.2 p hp
      obtain ⟨s1, s2, s3, s4, s5, s6, s7⟩ := sbyte_cmp _ t1
      by_cases e : 48 ≤ b p ∧ b p ≤ 57
      · have e1 : rnE b Z 48 57 (f + 1) p = rnE b Z 48 57 f (p + 1) := if_pos ⟨hp, e⟩
        have e2 : vlE b Z q (f + 1) p a = vlE b Z q f (p + 1) (if p < q + 3 then a * 10 + b p - 48 else a) := if_pos ⟨hp, e⟩
        have esb : sb (b p) = nI (b p) := if_pos (by omega)
        have esub : nI p - nI q = nI (p - q) := nI_sub hq
        by_cases e3 : p < q + 3
        · rw [if_pos e3] at e2
          obtain ⟨J, g1, g2, g3, g4, g5⟩ := ih (p + 1) (a * 10 + b p - 48) (ab_up (ab_up I kx_reader 6 (nI (a * 10 + b p - 48))) kx_reader 3 (nI (p + 1))) (cT_mv (rmv_up (rmv_up rmv_refl (by omega)) (Or.inl rfl)) h) (by omega) (by omega) (by omega) (by rw [ab_up_i, pk_us]) (by rw [ab_up_i, pk_un (by decide), ab_up_i, pk_un (by decide)]; exact h5) (by rw [ab_up_i, pk_un (by decide), ab_up_i, pk_us])
          refine ⟨J, fun c hc => by rw [g1 c hc, ab_up_o hc, ab_up_o hc], fun k hk hk6 => by rw [g2 k hk hk6, ab_up_i, pk_un hk, ab_up_i, pk_un hk6], by rw [e1]; exact g3, by rw [e2]; exact g4, ?_⟩
          have ev : nI a * 10 + nI (b p) - 48 = nI (a * 10 + b p - 48) := by
            rw [show nI a * 10 = nI (a * 10) from nI_mul a 10, nI_add, show (48 : Int32) = nI 48 from rfl, nI_sub (by omega)]
          refine r_Reader_passNumber_5 hT (Nat.le_refl _) (Nat.le_refl _) ?_
          rw [h.1, h3, nI_clamp (by omega), t2, h5, h6, nI_1, esub, esb, ev]
          exact bb_f (fun h => by have := (nI_leI (by omega) (by omega)).mp h; omega) ⟨vp_in_nI (by omega) (by omega), bb_f (fun h => by have := s3.mp (by rw [esb]; exact h); omega) (bb_f (fun h => by have := s4.mp (by rw [esb]; exact h); omega) (bb_f (fun h => by have := (nI_leI (a := 3) (by omega) (by omega)).mp h; omega) g5))⟩
        · rw [if_neg e3] at e2
          obtain ⟨J, g1, g2, g3, g4, g5⟩ := ih (p + 1) a (ab_up I kx_reader 3 (nI (p + 1))) (cT_mv (rmv_up rmv_refl (Or.inl rfl)) h) (by omega) (by omega) (by omega) (by rw [ab_up_i, pk_us]) (by rw [ab_up_i, pk_un (by decide)]; exact h5) (by rw [ab_up_i, pk_un (by decide)]; exact h6)
          refine ⟨J, fun c hc => by rw [g1 c hc, ab_up_o hc], fun k hk hk6 => by rw [g2 k hk hk6, ab_up_i, pk_un hk], by rw [e1]; exact g3, by rw [e2]; exact g4, ?_⟩
          refine r_Reader_passNumber_5 hT (Nat.le_refl _) (Nat.le_refl _) ?_
          rw [h.1, h3, nI_clamp (by omega), t2, h5, nI_1, esub]
          exact bb_f (fun h => by have := (nI_leI (by omega) (by omega)).mp h; omega) ⟨vp_in_nI (by omega) (by omega), bb_f (fun h => by have := s3.mp h; omega) (bb_f (fun h => by have := s4.mp h; omega) (bb_t ((nI_leI (a := 3) (by omega) (by omega)).mpr (by omega)) g5))⟩
      · have e1 : rnE b Z 48 57 (f + 1) p = p := if_neg (fun h => e h.2)
        have e2 : vlE b Z q (f + 1) p a = a := if_neg (fun h => e h.2)
        refine ⟨I, fun _ _ => rfl, fun _ _ _ => rfl, by rw [e1]; exact h3, by rw [e2]; exact h6, ?_⟩
        refine r_Reader_passNumber_5 hT (Nat.le_refl _) (Nat.le_refl _) ?_
        rw [h.1, h3, nI_clamp (by omega), t2]
        refine bb_f (fun h => by have := (nI_leI (by omega) (by omega)).mp h; omega) ⟨vp_in_nI (by omega) (by omega), ?_⟩
        by_cases e2 : sb (b p) < 48
        · exact bb_t e2 rfl
        · exact bb_f e2 (bb_t (s4.mpr (by have : ¬ (b p < 48 ∨ 128 ≤ b p) := fun h => e2 (s3.mpr h); omega)) rfl)
    · have e : p = Z := by omega
      subst e
      have e1 : rnE b p 48 57 (f + 1) p = p := if_neg (fun h => absurd h.1 (Nat.lt_irrefl _))
      have e2 : vlE b p q (f + 1) p a = a := if_neg (fun h => absurd h.1 (Nat.lt_irrefl _))
      refine ⟨I, fun _ _ => rfl, fun _ _ _ => rfl, by rw [e1]; exact h3, by rw [e2]; exact h6, ?_⟩
      refine r_Reader_passNumber_5 hT (Nat.le_refl _) (Nat.le_refl _) ?_
      rw [h.1, h3]
      exact bb_t (nI_le (Nat.le_refl _) (by omega)) rfl
/-- the reader stands at a sign -/
def rAt (I : Nat → Nat → Int32) (t : Tk) : Prop := I kx_reader 4 = nI t.1 ∧ I kx_reader 5 = nI t.2.1 ∧ I kx_reader 3 = nI t.2.2.1 ∧ (t.1 = 2 → I kx_reader 6 = nI t.2.2.2)
theorem k_toNext (hT : w.1.stackTraces = false) {p0 : Nat} : ∀ f p (I : Nat → Nat → Int32), cT I b Z → p ≤ Z → Z ≤ p + f → skp b Z f p = skp b Z 700 p0 → I kx_reader 3 = nI p → ∃ J, rmv J I ∧ rAt J (tk b Z p0) ∧ ab_E w (d + 2) mt_Reader_toNext 0 [.ref kx_reader] [] (I, L, ab_RR, n, nc, ns) (.inl none, (J, L, ab_RR, n, nc, ns)) := by
  intro f
  induction f with
  | zero =>
    intro p I h h1 h2 h0 h3
    have e : p = Z := by omega
    subst e
    have h0 : p = skp b p 700 p0 := h0
    have hZ := h.2.1
    rcases tk_cs (b := b) (Z := p) (p := p0) with ⟨g1, e⟩ | ⟨g1, _⟩ | ⟨g1, _⟩ | ⟨g1, _⟩
    · rw [e, ← h0]
      refine ⟨ab_up (ab_up I kx_reader 5 (nI p)) kx_reader 4 0, rmv_up (rmv_up rmv_refl (by omega)) (by omega), ⟨by rw [ab_up_i, pk_us]; rfl, by rw [ab_up_i, pk_un (by decide), ab_up_i, pk_us], by rw [ab_up_i, pk_un (by decide), ab_up_i, pk_un (by decide)]; exact h3, fun h => absurd h (show ¬ (0 : Nat) = 2 by omega)⟩, ?_⟩
      refine r_Reader_toNext_0 hT (Nat.le_refl _) (Nat.le_refl _) ?_
      rw [h.1, h3]
      exact bb_t (nI_le (Nat.le_refl _) (by omega)) (bb_f (fun h => by have := (nI_ltI (by omega) (by omega)).mp h; omega) rfl)
    · rw [← h0] at g1; omega
    · rw [← h0] at g1; omega
    · rw [← h0] at g1; omega
  | succ f ih =>
    intro p I h h1 h2 h0 h3
    have hZ := h.2.1
    by_cases hs : p < Z ∧ (b p = 32 ∨ b p = 10)
    · have e1 : skp b Z (f + 1) p = skp b Z f (p + 1) := if_pos hs
      rw [e1] at h0
      obtain ⟨t1, t2⟩ := h.2.2 p hs.1
      obtain ⟨s1, s2, s3, s4, s5, s6, s7⟩ := sbyte_cmp _ t1
      obtain ⟨J, g1, g2, g3⟩ := ih (p + 1) (ab_up I kx_reader 3 (nI (p + 1))) (cT_mv (rmv_up rmv_refl (Or.inl rfl)) h) (by omega) (by omega) h0 (by rw [ab_up_i, pk_us])
      refine ⟨J, rmv_trans g1 (rmv_up rmv_refl (Or.inl rfl)), g2, ?_⟩
      refine r_Reader_toNext_0 hT (Nat.le_refl _) (Nat.le_refl _) ?_
      rw [h.1, h3, nI_clamp (by omega), t2, nI_1]
      refine bb_f (fun h => by have := (nI_leI (by omega) (by omega)).mp h; omega) ⟨vp_in_nI (by omega) (by omega), ?_⟩
      by_cases e32 : b p = 32
      · exact bb_t (s6.mpr e32) g3
      · exact bb_f (fun h => e32 (s6.mp h)) (bb_t' (s7.mpr (by omega)) g3)
    · have e1 : skp b Z (f + 1) p = p := if_neg hs
      rw [e1] at h0
      rcases tk_cs (b := b) (Z := Z) (p := p0) with ⟨g1, e⟩ | ⟨g1, g2, e⟩ | ⟨g1, g2, e⟩ | ⟨g1, g2, g3, e⟩ <;> rw [← h0] at e g1
      · have ep : p = Z := by omega
        subst ep
        rw [e]
        refine ⟨ab_up (ab_up I kx_reader 5 (nI p)) kx_reader 4 0, rmv_up (rmv_up rmv_refl (by omega)) (by omega), ⟨by rw [ab_up_i, pk_us]; rfl, by rw [ab_up_i, pk_un (by decide), ab_up_i, pk_us], by rw [ab_up_i, pk_un (by decide), ab_up_i, pk_un (by decide)]; exact h3, fun h => absurd h (show ¬ (0 : Nat) = 2 by omega)⟩, ?_⟩
        refine r_Reader_toNext_0 hT (Nat.le_refl _) (Nat.le_refl _) ?_
        rw [h.1, h3]
        exact bb_t (nI_le (Nat.le_refl _) (by omega)) (bb_f (fun h => by have := (nI_ltI (by omega) (by omega)).mp h; omega) rfl)
      · obtain ⟨t1, t2⟩ := h.2.2 p g1
        obtain ⟨s1, s2, s3, s4, s5, s6, s7⟩ := sbyte_cmp _ t1
        rw [← h0] at g2
        have mv : rmv (ab_up (ab_up I kx_reader 5 (nI p)) kx_reader 4 1) I := rmv_up (rmv_up rmv_refl (by omega)) (by omega)
        obtain ⟨J, j1, j2, j3, j4⟩ := k_passWord (d := d) (w := w) (n := n) (nc := nc) (ns := ns) (L := L) (b := b) (Z := Z) hT 700 p (ab_up (ab_up I kx_reader 5 (nI p)) kx_reader 4 1) (cT_mv mv h) h1 (by omega) (by rw [ab_up_i, pk_un (by decide), ab_up_i, pk_un (by decide)]; exact h3)
        rw [e]
        refine ⟨J, rmv_trans ⟨j1, fun k hk _ _ _ => j2 k hk⟩ mv, ⟨by rw [j2 4 (by decide), ab_up_i, pk_us]; rfl, by rw [j2 5 (by decide), ab_up_i, pk_un (by decide), ab_up_i, pk_us], j3, fun h => absurd h (show ¬ (1 : Nat) = 2 by omega)⟩, ?_⟩
        have c1 : ¬ sb (b p) < 97 := fun h => by have := s1.mp h; omega
        have c2 : ¬ 122 < sb (b p) := fun h => by have := s2.mp h; omega
        have c3 : ¬ sb (b p) = 32 := fun h => by have := s6.mp h; omega
        have c4 : ¬ sb (b p) = 10 := fun h => by have := s7.mp h; omega
        have c5 : nI p < nI Z := (nI_ltI (by omega) (by omega)).mpr g1
        have c6 : ¬ nI Z ≤ nI p := fun h => by have := (nI_leI (by omega) (by omega)).mp h; omega
        refine r_Reader_toNext_0 hT (Nat.le_refl _) (Nat.le_refl _) ?_
        rw [h.1, h3, nI_clamp (by omega), t2]
        refine bb_f c6 ⟨vp_in_nI (by omega) (by omega), bb_f c3 (bb_f' c4 (bb_t c5 (bb_f c1 (bb_f c2 ⟨J, ?_, rfl⟩))))⟩
        refine ab_C_of (by decide) rfl (Nat.le_of_ble_eq_true rfl) hT ?_
        exact j4
      · obtain ⟨t1, t2⟩ := h.2.2 p g1
        obtain ⟨s1, s2, s3, s4, s5, s6, s7⟩ := sbyte_cmp _ t1
        rw [← h0] at g2
        have mv : rmv (ab_up (ab_up (ab_up I kx_reader 5 (nI p)) kx_reader 4 2) kx_reader 6 0) I := rmv_up (rmv_up (rmv_up rmv_refl (by omega)) (by omega)) (by omega)
        obtain ⟨J, j1, j2, j3, j5, j4⟩ := k_passNumber (d := d) (w := w) (n := n) (nc := nc) (ns := ns) (L := L) (b := b) (Z := Z) (q := p) hT 700 p 0 (ab_up (ab_up (ab_up I kx_reader 5 (nI p)) kx_reader 4 2) kx_reader 6 0) (cT_mv mv h) (Nat.le_refl _) h1 (by omega) (by rw [ab_up_i, pk_un (by decide), ab_up_i, pk_un (by decide), ab_up_i, pk_un (by decide)]; exact h3) (by rw [ab_up_i, pk_un (by decide), ab_up_i, pk_un (by decide), ab_up_i, pk_us]) (by rw [ab_up_i, pk_us]; rfl)
        rw [e]
        refine ⟨J, rmv_trans ⟨j1, fun k hk _ _ h6 => j2 k hk h6⟩ mv, ⟨by rw [j2 4 (by decide) (by decide), ab_up_i, pk_un (by decide), ab_up_i, pk_us]; rfl, by rw [j2 5 (by decide) (by decide), ab_up_i, pk_un (by decide), ab_up_i, pk_un (by decide), ab_up_i, pk_us], j3, fun _ => j5⟩, ?_⟩
        have c1 : sb (b p) < 97 := s1.mpr (by omega)
        have c2 : ¬ sb (b p) < 48 := fun h => by have := s3.mp h; omega
        have c7 : ¬ 57 < sb (b p) := fun h => by have := s4.mp h; omega
        have c3 : ¬ sb (b p) = 32 := fun h => by have := s6.mp h; omega
        have c4 : ¬ sb (b p) = 10 := fun h => by have := s7.mp h; omega
        have c5 : nI p < nI Z := (nI_ltI (by omega) (by omega)).mpr g1
        have c6 : ¬ nI Z ≤ nI p := fun h => by have := (nI_leI (by omega) (by omega)).mp h; omega
        refine r_Reader_toNext_0 hT (Nat.le_refl _) (Nat.le_refl _) ?_
        rw [h.1, h3, nI_clamp (by omega), t2]
        refine bb_f c6 ⟨vp_in_nI (by omega) (by omega), bb_f c3 (bb_f' c4 (bb_t c5 (bb_t c1 (bb_f c2 (bb_f c7 ⟨J, ?_, rfl⟩)))))⟩
        refine ab_C_of (by decide) rfl (Nat.le_of_ble_eq_true rfl) hT ?_
        refine r_Reader_passNumber_0 hT (Nat.le_refl _) (Nat.le_refl _) ?_
        exact j4
      · obtain ⟨t1, t2⟩ := h.2.2 p g1
        obtain ⟨s1, s2, s3, s4, s5, s6, s7⟩ := sbyte_cmp _ t1
        rw [← h0] at g2 g3
        have c3 : ¬ sb (b p) = 32 := fun h => by have := s6.mp h; omega
        have c4 : ¬ sb (b p) = 10 := fun h => by have := s7.mp h; omega
        have c5 : nI p < nI Z := (nI_ltI (by omega) (by omega)).mpr g1
        have c6 : ¬ nI Z ≤ nI p := fun h => by have := (nI_leI (by omega) (by omega)).mp h; omega
        rw [e]
        refine ⟨ab_up (ab_up (ab_up I kx_reader 5 (nI p)) kx_reader 4 (nI (if b p = 59 then 3 else 4))) kx_reader 3 (nI (p + 1)), rmv_up (rmv_up (rmv_up rmv_refl (by omega)) (by omega)) (by omega), ⟨by rw [ab_up_i, pk_un (by decide), ab_up_i, pk_us], by rw [ab_up_i, pk_un (by decide), ab_up_i, pk_un (by decide), ab_up_i, pk_us], by rw [ab_up_i, pk_us], fun h => ?_⟩, ?_⟩
        · have h : (if b p = 59 then 3 else 4) = 2 := h
          split at h <;> omega
        · refine r_Reader_toNext_0 hT (Nat.le_refl _) (Nat.le_refl _) ?_
          rw [h.1, h3, nI_clamp (by omega), t2, nI_1]
          refine bb_f c6 ⟨vp_in_nI (by omega) (by omega), bb_f c3 (bb_f' c4 (bb_t c5 ?_))⟩
          have last : ∀ {X Y : Prop}, (b p = 59 → Y) → (¬ b p = 59 → X) → (¬ sb (b p) = 59 → X) ∧ (sb (b p) = 59 → Y) := fun h1 h2 => ⟨fun h => h2 (fun e => h (s5.mpr e)), fun h => h1 (s5.mp h)⟩
          have fin : ∀ {X Y : Prop}, (b p = 59 → Y) → (¬ b p = 59 → X) → ∀ {D : Prop}, ((sb (b p) < 48 → ((¬ sb (b p) = 59 → X) ∧ (sb (b p) = 59 → Y))) ∧ (¬ sb (b p) < 48 → ((57 < sb (b p) → ((¬ sb (b p) = 59 → X) ∧ (sb (b p) = 59 → Y))) ∧ (¬ 57 < sb (b p) → D)))) := fun {X Y} h1 h2 {D} => by
            by_cases e1 : sb (b p) < 48
            · exact bb_t e1 (last h1 h2)
            · refine bb_f e1 (bb_t (s4.mpr ?_) (last h1 h2))
              have : ¬ (b p < 48 ∨ 128 ≤ b p) := fun h => e1 (s3.mpr h)
              omega
          by_cases e1 : sb (b p) < 97
          · exact bb_t e1 (fin (fun e => by rw [if_pos e]; rfl) (fun e => by rw [if_neg e]; rfl))
          · refine bb_f e1 (bb_t (s2.mpr ?_) (fin (fun e => by rw [if_pos e]; rfl) (fun e => by rw [if_neg e]; rfl)))
            have : ¬ (b p < 97 ∨ 128 ≤ b p) := fun h => e1 (s1.mpr h)
            omega
/-- one sign on -/
theorem k_next (hT : w.1.stackTraces = false) {p : Nat} (h : cT I b Z) (hp : p ≤ Z) (h3 : I kx_reader 3 = nI p) : ∃ J, rmv J I ∧ rAt J (tk b Z p) ∧ ab_U w (d + 2) mt_Reader_toNext [.ref kx_reader] I L n nc ns J := by
  obtain ⟨J, g1, g2, g3⟩ := k_toNext (d := d) (w := w) (n := n) (nc := nc) (ns := ns) (L := L) hT 700 p I h hp (by have := h.2.1; omega) rfl h3
  refine ⟨J, g1, g2, ?_⟩
  refine ab_C_of (by decide) rfl (Nat.le_of_ble_eq_true rfl) hT ?_
  exact g3
end TKN
