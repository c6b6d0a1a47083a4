/-! the ACTS that are kept, on both sides -/
abbrev Ac : Type := Nat × (Nat → Bool) × (Nat → Nat) × Nat
/-- one act: the model's row says what the class keeps -/
def aX1 (e1 e2 fm : Nat → Nat) (h : Nat → Nat → Nat) (c : Ac) (f : Nat → Int32) : Prop := f 0 = nI c.1 ∧ (∀ k, k < 32 → bt (f 1) k = c.2.1 k) ∧ (∀ k, c.2.1 k = true → k < c.1) ∧ (∀ k, k < c.1 → f (3 + k) = nI (e1 k) ∧ f (27 + k) = nI (e2 k) ∧ f (51 + k) = nI (c.2.2.1 k) ∧ f (75 + k) = nI (fm k) ∧ 1 ≤ c.2.2.1 k ∧ c.2.2.1 k ≤ 999) ∧ mH f c.2.2.2 h
def aX (N : Nat) (e1 e2 fm : Nat → Nat) (h : Nat → Nat → Nat) (E m : Nat) (ac : Nat → Ac) (rr : Nat → Nat → Int32) : Prop := (∀ a, a < m → aX1 e1 e2 fm h (ac a) (rr a) ∧ (ac a).1 ≤ N ∧ (ac a).2.2.2 ≤ E) ∧ (∀ a, a + 1 < m → (ac a).1 ≤ (ac (a + 1)).1 ∧ (ac a).2.2.2 ≤ (ac (a + 1)).2.2.2 ∧ (ac (a + 1)).2.2.2 ≤ (ac a).2.2.2 + 24) ∧ (∀ a, a + 1 = m → E ≤ (ac a).2.2.2 + 24)
/-- from where on the class's ring must hold -/
def e0 (m : Nat) (ac : Nat → Ac) (E : Nat) : Nat := if m = 0 then E else (ac 0).2.2.2
section AX
variable {I : Nat → Nat → Int32} {S N : Nat} {sd : Nat → Bool} {e1 e2 pr fm : Nat → Nat} {l : List Nat}
variable {h : Nat → Nat → Nat} {E m : Nat} {ac : Nat → Ac} {rr : Nat → Nat → Int32}
theorem aX_low (hx : aX N e1 e2 fm h E m ac rr) : ∀ a, a < m → (ac 0).2.2.2 ≤ (ac a).2.2.2 ∧ (ac a).2.2.2 ≤ (ac 0).2.2.2 + 24 * a := by
  intro a
  induction a with
  | zero => intro _; exact ⟨Nat.le_refl _, Nat.le_refl _⟩
  | succ a ih =>
    intro ha
    have i := ih (by omega)
    have j := hx.2.1 a ha
    omega
theorem aX_bnd (hx : aX N e1 e2 fm h E m ac rr) : e0 m ac E ≤ E ∧ E ≤ e0 m ac E + 24 * m := by
  unfold e0
  by_cases hm : m = 0
  · subst hm; rw [if_pos rfl]; omega
  · rw [if_neg hm]
    have i := aX_low hx (m - 1) (by omega)
    have j := hx.2.2 (m - 1) (by omega)
    have k := (hx.1 0 (by omega)).2.2
    omega
theorem cH_mono {E0 E1 : Nat} (hH : cH I E0 E h) (h1 : E0 ≤ E1) (h2 : E1 ≤ E) : cH I E1 E h := ⟨hH.1, h2, by have := hH.2.2.1; omega, fun j h7 h8 => hH.2.2.2 j h7 (by omega)⟩
/-- the act of now, kept -/
theorem aX_now (hm : mC I S N sd e1 e2 pr fm l) (hH : mH (I mx_now) E h) : aX1 e1 e2 fm h (ct N sd pr E) (I mx_now) := by
  obtain ⟨⟨p1, p2, p3, p4, p5, p6⟩, m2, m3, m4, m5⟩ := hm
  refine ⟨p2, m3, m4, fun k hk => ?_, hH⟩
  have hk : k < N := hk
  obtain ⟨q1, q2, q3, q4, q5, q6⟩ := p6 k hk
  obtain ⟨r1, r2, r3, r4⟩ := m5 k hk
  exact ⟨q1, q2, q3, r1, r3, q6⟩
theorem aX_keep (hx : aX N e1 e2 fm h E m ac rr) (hm : m ≤ 40) {c : Ac} {f : Nat → Int32} (hc : aX1 e1 e2 fm h c f) (hN : c.1 = N) (hE : c.2.2.2 = E) : aX N e1 e2 fm h E (min (m + 1) 40) (aNx m ac c) (aNx m rr f) ∧ e0 m ac E ≤ e0 (min (m + 1) 40) (aNx m ac c) E := by
  have bn := aX_bnd hx
  by_cases e : m = 40
  · subst e
    have ea : ∀ a, aNx 40 ac c a = if a < 39 then ac (a + 1) else c := fun a => by unfold aNx; rw [if_pos rfl]
    have er : ∀ a, aNx 40 rr f a = if a < 39 then rr (a + 1) else f := fun a => by unfold aNx; rw [if_pos rfl]
    refine ⟨⟨fun a ha => ?_, fun a ha => ?_, fun a ha => ?_⟩, ?_⟩
    · rw [ea, er]
      by_cases g : a < 39
      · rw [if_pos g, if_pos g]; exact hx.1 (a + 1) (by omega)
      · rw [if_neg g, if_neg g]; exact ⟨hc, by omega, by omega⟩
    · rw [ea, ea, if_pos (by omega)]
      by_cases g : a + 1 < 39
      · rw [if_pos g]; exact hx.2.1 (a + 1) (by omega)
      · rw [if_neg g]
        have e : a + 1 = 39 := by omega
        rw [e]
        have u := hx.1 39 (by omega)
        have v := hx.2.2 39 rfl
        omega
    · rw [ea, if_neg (by omega)]; omega
    · unfold e0
      rw [if_neg (by omega), if_neg (by omega), ea, if_pos (by omega)]
      exact (hx.2.1 0 (by omega)).2.1
  · have emin : min (m + 1) 40 = m + 1 := by omega
    rw [emin]
    have ea : ∀ a, aNx m ac c a = if a < m then ac a else c := fun a => by unfold aNx; rw [if_neg e]
    have er : ∀ a, aNx m rr f a = if a < m then rr a else f := fun a => by unfold aNx; rw [if_neg e]
    refine ⟨⟨fun a ha => ?_, fun a ha => ?_, fun a ha => ?_⟩, ?_⟩
    · rw [ea, er]
      by_cases g : a < m
      · rw [if_pos g, if_pos g]; exact hx.1 a g
      · rw [if_neg g, if_neg g]; exact ⟨hc, by omega, by omega⟩
    · rw [ea, ea, if_pos (by omega)]
      by_cases g : a + 1 < m
      · rw [if_pos g]; exact hx.2.1 a g
      · rw [if_neg g]
        have u := hx.1 a (by omega)
        have v := hx.2.2 a (by omega)
        omega
    · rw [ea, if_neg (by omega)]; omega
    · unfold e0
      rw [if_neg (show ¬ m + 1 = 0 by omega), ea]
      by_cases g : m = 0
      · rw [if_pos g, if_neg (by omega)]; omega
      · rw [if_neg g, if_pos (by omega)]; exact Nat.le_refl _
end AX
