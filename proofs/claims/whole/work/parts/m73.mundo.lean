/-! UNDO: the model -/
section MUN
variable {w : ab_Wd} {d n nc ns : Nat} {I : Nat → Nat → Int32} {L : Nat → Nat → Int64}
theorem z_undo (hT : w.1.stackTraces = false) {m : Nat} {rr : Nat → Nat → Int32} (h : aM I (m + 1) rr) : ∃ J, (∀ c, c ≠ mx → c ≠ mx_now → J c = I c) ∧ (∀ k, k ≠ 1 → k ≠ 41 → J mx k = I mx k) ∧ J mx 1 = 0 ∧ (∀ j, j < 399 → J mx_now j = rr m j) ∧ aM J m rr ∧ ab_PU w d mt_M_undo [.ref mx] I L n nc ns (nI m) J := by
  obtain ⟨h1, h2, h3⟩ := h
  have loop : ∀ t i (K : Nat → Nat → Int32), i + t = 399 → (∀ c, c ≠ mx → c ≠ mx_now → K c = I c) → (∀ k, k ≠ 1 → k ≠ 41 → K mx k = I mx k) → K mx 1 = 0 → K mx 41 = nI m → (∀ j, j < i → K mx_now j = rr m j) → ∃ J, (∀ c, c ≠ mx → c ≠ mx_now → J c = I c) ∧ (∀ k, k ≠ 1 → k ≠ 41 → J mx k = I mx k) ∧ J mx 1 = 0 ∧ (∀ j, j < 399 → J mx_now j = rr m j) ∧ J mx 41 = nI m ∧ ab_E w d mt_M_undo 26 [.ref mx, .int (nI i)] [] (K, L, ab_RR, n, nc, ns) (.inl (some (.int (nI m))), (J, L, ab_RR, n, nc, ns)) := by
    intro t
    induction t with
    | zero =>
      intro i K hi k1 k2 k3 k4 k5
      refine ⟨K, k1, k2, k3, fun j hj => k5 j (by omega), k4, ?_⟩
      refine r_M_undo_26 hT _ (Nat.le_refl _) (Nat.le_refl _) ?_
      exact bb_t (nI_le (a := 399) (by omega) (by omega)) (by rw [k4])
    | succ t ih =>
      intro i K hi k1 k2 k3 k4 k5
      have er : K mx_past (399 * m + i) = rr m i := by rw [k1 _ (by decide) (by decide)]; exact h3 m (by omega) i (by omega)
      obtain ⟨J, b1, b2, b3, b4, b5, b6⟩ := ih (i + 1) (ab_up K mx_now i (rr m i)) (by omega) (fun c c1 c2 => by rw [ab_up_o c2]; exact k1 c c1 c2) (fun k hk hk2 => by rw [ab_up_o (by decide)]; exact k2 k hk hk2) (by rw [ab_up_o (by decide)]; exact k3) (by rw [ab_up_o (by decide)]; exact k4) (fun j hj => by
        rw [ab_up_i]
        by_cases e : j = i
        · rw [e, pk_us]
        · rw [pk_un e]; exact k5 j (by omega))
      refine ⟨J, b1, b2, b3, b4, b5, ?_⟩
      refine r_M_undo_26 hT _ (Nat.le_refl _) (Nat.le_refl _) ?_
      rw [k4, nl_mul2, nI_add, nI_clamp (by omega), nI_clamp (by omega), er, nI_1 i]
      exact bb_f (fun h => by have := (nI_leI (a := 399) (by omega) (by omega)).mp h; omega) ⟨vp_in_nI (by omega) (by omega), vp_in_nI (by omega) (by omega), b6⟩
  have em : nI (m + 1) - 1 = nI m := by rw [show (1 : Int32) = nI 1 from rfl, nI_sub (by omega)]; rfl
  obtain ⟨J, b1, b2, b3, b4, b5, b6⟩ := loop 399 0 (ab_up (ab_up I mx 1 0) mx 41 (nI m)) (by omega) (fun c c1 c2 => by rw [ab_up_o c1, ab_up_o c1]) (fun k hk hk2 => by rw [ab_up_i, pk_un hk2, ab_up_i, pk_un hk]) (by rw [ab_up_i, pk_un (by omega), ab_up_i, pk_us]) (by rw [ab_up_i, pk_us]) (fun j hj => absurd hj (Nat.not_lt_zero j))
  refine ⟨J, b1, b2, b3, b4, ⟨b5, by omega, fun a ha j hj => by rw [b1 _ (by decide) (by decide)]; exact h3 a (by omega) j hj⟩, ?_⟩
  refine ab_C_of (by decide) rfl (Nat.le_of_ble_eq_true rfl) hT ?_
  refine r_M_undo_0 hT (Nat.le_refl _) (Nat.le_refl _) ?_
  rw [h1, em]
  exact bb_f' (fun h => by have := (nI_eq (b := 0) (by omega) (by omega)).mp h; omega) b6
theorem z_undo0 (hT : w.1.stackTraces = false) {rr : Nat → Nat → Int32} (h : aM I 0 rr) : ab_PU w d mt_M_undo [.ref mx] I L n nc ns (-1) (ab_up I mx 1 0) := by
  refine ab_C_of (by decide) rfl (Nat.le_of_ble_eq_true rfl) hT ?_
  refine r_M_undo_0 hT (Nat.le_refl _) (Nat.le_refl _) ?_
  exact bb_t' h.1 rfl
/-- the model's row of an act is the row of now again -/
theorem mC_back {S : Nat} {e1 e2 fm : Nat → Nat} {hh : Nat → Nat → Nat} {c : Ac} {f : Nat → Int32} {l' : List Nat} (hx : aX1 e1 e2 fm hh c f) (hS : I mx 2 = nI S) (h2 : 2 ≤ S) (h10 : S ≤ 10) (h24 : c.1 ≤ 24) (hw : ∀ k, k < c.1 → e1 k < S ∧ e2 k < S ∧ fm k < 4 ∧ e1 k ≠ e2 k) (hl : od c.2.2.1 c.1 l') (hf : ∀ j, j < 399 → I mx_now j = f j) : mC I S c.1 c.2.1 e1 e2 c.2.2.1 fm l' ∧ mH (I mx_now) c.2.2.2 hh := by
  obtain ⟨x1, x2, x3, x4, x5⟩ := hx
  refine ⟨⟨⟨hS, by rw [hf 0 (by omega)]; exact x1, h10, h24, hl, fun k hk => ?_⟩, h2, fun k hk => by rw [hf 1 (by omega)]; exact x2 k hk, x3, fun k hk => ?_⟩, by rw [hf 2 (by omega)]; exact x5.1, fun j h7 h8 q hq => ?_⟩
  · obtain ⟨q1, q2, q3, q4, q5, q6⟩ := x4 k hk
    rw [hf _ (by omega), hf _ (by omega), hf _ (by omega)]
    exact ⟨q1, q2, q3, (hw k hk).1, (hw k hk).2.1, q6⟩
  · obtain ⟨q1, q2, q3, q4, q5, q6⟩ := x4 k hk
    rw [hf _ (by omega)]
    exact ⟨q4, (hw k hk).2.2.1, q5, (hw k hk).2.2.2⟩
  · rw [hf _ (by omega)]; exact x5.2 j h7 h8 q hq
end MUN
