/-! the kept ACTS behind swaps and behind UNDO -/
section UND
variable {I : Nat → Nat → Int32} {S N : Nat} {sd : Nat → Bool} {e1 e2 pr fm : Nat → Nat} {l : List Nat}
variable {h h' : Nat → Nat → Nat} {E E' m : Nat} {ac : Nat → Ac} {rr : Nat → Nat → Int32}
theorem aX_told (hx : aX N e1 e2 fm h E m ac rr) (hE : E ≤ E') (hl : ∀ a, a + 1 = m → E' ≤ (ac a).2.2.2 + 24) (e : ∀ j, j < E → h' j = h j) : aX N e1 e2 fm h' E' m ac rr := by
  refine ⟨fun i hi => ?_, hx.2.1, hl⟩
  obtain ⟨⟨x1, x2, x3, x4, x5⟩, x6, x7⟩ := hx.1 i hi
  exact ⟨⟨x1, x2, x3, x4, mH_cong x5 (fun j hj => e j (by omega))⟩, x6, by omega⟩
theorem aX_mono (hx : aX N e1 e2 fm h E m ac rr) : ∀ q a, a + q < m → (ac a).1 ≤ (ac (a + q)).1 ∧ (ac a).2.2.2 ≤ (ac (a + q)).2.2.2 := by
  intro q
  induction q with
  | zero => intro a _; exact ⟨Nat.le_refl _, Nat.le_refl _⟩
  | succ q ih =>
    intro a ha
    have i := ih a (by omega)
    have j := hx.2.1 (a + q) (by omega)
    rw [← Nat.add_assoc]
    omega
/-- one act is taken back -/
theorem aX_undo (hx : aX N e1 e2 fm h E (m + 1) ac rr) : aX (ac m).1 e1 e2 fm h (ac m).2.2.2 m ac rr := by
  refine ⟨fun a ha => ?_, fun a ha => hx.2.1 a (by omega), fun a ha => ?_⟩
  · have q := aX_mono hx (m - a) a (by omega)
    rw [show a + (m - a) = m by omega] at q
    exact ⟨(hx.1 a (by omega)).1, q.1, q.2⟩
  · subst ha
    exact (hx.2.1 a (by omega)).2.2
theorem e0_undo (hx : aX N e1 e2 fm h E (m + 1) ac rr) : e0 (m + 1) ac E ≤ e0 m ac (ac m).2.2.2 ∧ e0 m ac (ac m).2.2.2 ≤ (ac m).2.2.2 := by
  unfold e0
  rw [if_neg (by omega)]
  have q := aX_low hx m (by omega)
  by_cases g : m = 0
  · subst g; rw [if_pos rfl]; exact ⟨Nat.le_refl _, Nat.le_refl _⟩
  · rw [if_neg g]; exact ⟨Nat.le_refl _, q.1⟩
/-- the class's ring, when it goes back -/
theorem cH_back {J : Nat → Nat → Int32} {E0 E1 : Nat} (hH : cH I E0 E h) (h1 : E0 ≤ E1) (h2 : E1 ≤ E') (h3 : E' ≤ E) (j1 : J kx_now_swaps 1 = nI E') (j2 : J kx_now_swaps_rows = I kx_now_swaps_rows) : cH J E1 E' h := ⟨j1, h2, by have := hH.2.2.1; omega, fun j h7 h8 => by rw [j2]; exact hH.2.2.2 j (by omega) (by omega)⟩
end UND
