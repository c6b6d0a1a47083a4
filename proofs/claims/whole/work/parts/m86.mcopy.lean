/-! COPIES: rows of the model -/
theorem cpy_at {f g : Nat → Int32} {n k : Nat} (h : k < n) : va_cpy f g 0 0 n k = f k := by
  unfold va_cpy
  rw [if_pos (by omega), show 0 + (k - 0) = k by omega]
section MCP
variable {w : ab_Wd} {d n nc ns : Nat} {I : Nat → Nat → Int32} {L : Nat → Nat → Int64}
theorem z_cp0 (hT : w.1.stackTraces = false) : ∃ J, (∀ a, a ≠ mx_now → J a = I a) ∧ (∀ x, x < 399 → J mx_now x = I mx_reading x) ∧ ab_U w d mt_M_copyTo [.ref mx_now, .ref mx_reading] I L n nc ns J := by
  have loop : ∀ m i (J : Nat → Nat → Int32), i + m = 399 → (∀ a, a ≠ mx_now → J a = I a) → (∀ x, x < i → J mx_now x = I mx_reading x) → ∃ J', (∀ a, a ≠ mx_now → J' a = I a) ∧ (∀ x, x < 399 → J' mx_now x = I mx_reading x) ∧ ab_E w d mt_M_copyTo 2 [.ref mx_now, .ref mx_reading, .int (nI i)] [] (J, L, ab_RR, n, nc, ns) (.inl none, (J', L, ab_RR, n, nc, ns)) := by
    intro m
    induction m with
    | zero =>
      intro i J hi h1 h2
      refine ⟨J, h1, fun x hx => h2 x (by omega), ?_⟩
      refine r_M_copyTo_0_2 hT _ (Nat.le_refl _) (Nat.le_refl _) ?_
      exact bb_t (nI_le (a := 399) (by omega) (by omega)) rfl
    | succ m ih =>
      intro i J hi h1 h2
      have hp : J mx_reading = I mx_reading := h1 _ (by decide)
      obtain ⟨J', g1, g2, g3⟩ := ih (i + 1) (ab_up J mx_now i (J mx_reading i)) (by omega) (fun a ha => by rw [ab_up_o ha]; exact h1 a ha) (fun x hx => by
        rw [ab_up_i]
        by_cases e : x = i
        · rw [e, pk_us, hp]
        · rw [pk_un e]; exact h2 x (by omega))
      refine ⟨J', g1, g2, ?_⟩
      refine r_M_copyTo_0_2 hT _ (Nat.le_refl _) (Nat.le_refl _) ?_
      rw [nI_clamp (by omega), nI_1]
      exact bb_f (fun h => by have := (nI_leI (a := 399) (by omega) (by omega)).mp h; omega) ⟨vp_in_nI (by omega) (by omega), g3⟩
  obtain ⟨J', g1, g2, g3⟩ := loop 399 0 I (by omega) (fun _ _ => rfl) (fun x hx => absurd hx (Nat.not_lt_zero x))
  refine ⟨J', g1, g2, ?_⟩
  refine ab_C_of (by decide) rfl (Nat.le_of_ble_eq_true rfl) hT ?_
  refine r_M_copyTo_0_0 hT (Nat.le_refl _) (Nat.le_refl _) ?_
  exact g3
theorem z_cp2 (hT : w.1.stackTraces = false) : ∃ J, (∀ a, a ≠ mx_now → J a = I a) ∧ (∀ x, x < 399 → J mx_now x = I mx_rowThen x) ∧ ab_U w d mt_M_copyTo [.ref mx_now, .ref mx_rowThen] I L n nc ns J := by
  have loop : ∀ m i (J : Nat → Nat → Int32), i + m = 399 → (∀ a, a ≠ mx_now → J a = I a) → (∀ x, x < i → J mx_now x = I mx_rowThen x) → ∃ J', (∀ a, a ≠ mx_now → J' a = I a) ∧ (∀ x, x < 399 → J' mx_now x = I mx_rowThen x) ∧ ab_E w d mt_M_copyTo 2 [.ref mx_now, .ref mx_rowThen, .int (nI i)] [] (J, L, ab_RR, n, nc, ns) (.inl none, (J', L, ab_RR, n, nc, ns)) := by
    intro m
    induction m with
    | zero =>
      intro i J hi h1 h2
      refine ⟨J, h1, fun x hx => h2 x (by omega), ?_⟩
      refine r_M_copyTo_2_2 hT _ (Nat.le_refl _) (Nat.le_refl _) ?_
      exact bb_t (nI_le (a := 399) (by omega) (by omega)) rfl
    | succ m ih =>
      intro i J hi h1 h2
      have hp : J mx_rowThen = I mx_rowThen := h1 _ (by decide)
      obtain ⟨J', g1, g2, g3⟩ := ih (i + 1) (ab_up J mx_now i (J mx_rowThen i)) (by omega) (fun a ha => by rw [ab_up_o ha]; exact h1 a ha) (fun x hx => by
        rw [ab_up_i]
        by_cases e : x = i
        · rw [e, pk_us, hp]
        · rw [pk_un e]; exact h2 x (by omega))
      refine ⟨J', g1, g2, ?_⟩
      refine r_M_copyTo_2_2 hT _ (Nat.le_refl _) (Nat.le_refl _) ?_
      rw [nI_clamp (by omega), nI_1]
      exact bb_f (fun h => by have := (nI_leI (a := 399) (by omega) (by omega)).mp h; omega) ⟨vp_in_nI (by omega) (by omega), g3⟩
  obtain ⟨J', g1, g2, g3⟩ := loop 399 0 I (by omega) (fun _ _ => rfl) (fun x hx => absurd hx (Nat.not_lt_zero x))
  refine ⟨J', g1, g2, ?_⟩
  refine ab_C_of (by decide) rfl (Nat.le_of_ble_eq_true rfl) hT ?_
  refine r_M_copyTo_2_0 hT (Nat.le_refl _) (Nat.le_refl _) ?_
  exact g3
theorem z_cp3 (hT : w.1.stackTraces = false) : ∃ J, (∀ a, a ≠ mx_rowThen → J a = I a) ∧ (∀ x, x < 399 → J mx_rowThen x = I mx_now x) ∧ ab_U w d mt_M_copyTo [.ref mx_rowThen, .ref mx_now] I L n nc ns J := by
  have loop : ∀ m i (J : Nat → Nat → Int32), i + m = 399 → (∀ a, a ≠ mx_rowThen → J a = I a) → (∀ x, x < i → J mx_rowThen x = I mx_now x) → ∃ J', (∀ a, a ≠ mx_rowThen → J' a = I a) ∧ (∀ x, x < 399 → J' mx_rowThen x = I mx_now x) ∧ ab_E w d mt_M_copyTo 2 [.ref mx_rowThen, .ref mx_now, .int (nI i)] [] (J, L, ab_RR, n, nc, ns) (.inl none, (J', L, ab_RR, n, nc, ns)) := by
    intro m
    induction m with
    | zero =>
      intro i J hi h1 h2
      refine ⟨J, h1, fun x hx => h2 x (by omega), ?_⟩
      refine r_M_copyTo_3_2 hT _ (Nat.le_refl _) (Nat.le_refl _) ?_
      exact bb_t (nI_le (a := 399) (by omega) (by omega)) rfl
    | succ m ih =>
      intro i J hi h1 h2
      have hp : J mx_now = I mx_now := h1 _ (by decide)
      obtain ⟨J', g1, g2, g3⟩ := ih (i + 1) (ab_up J mx_rowThen i (J mx_now i)) (by omega) (fun a ha => by rw [ab_up_o ha]; exact h1 a ha) (fun x hx => by
        rw [ab_up_i]
        by_cases e : x = i
        · rw [e, pk_us, hp]
        · rw [pk_un e]; exact h2 x (by omega))
      refine ⟨J', g1, g2, ?_⟩
      refine r_M_copyTo_3_2 hT _ (Nat.le_refl _) (Nat.le_refl _) ?_
      rw [nI_clamp (by omega), nI_1]
      exact bb_f (fun h => by have := (nI_leI (a := 399) (by omega) (by omega)).mp h; omega) ⟨vp_in_nI (by omega) (by omega), g3⟩
  obtain ⟨J', g1, g2, g3⟩ := loop 399 0 I (by omega) (fun _ _ => rfl) (fun x hx => absurd hx (Nat.not_lt_zero x))
  refine ⟨J', g1, g2, ?_⟩
  refine ab_C_of (by decide) rfl (Nat.le_of_ble_eq_true rfl) hT ?_
  refine r_M_copyTo_3_0 hT (Nat.le_refl _) (Nat.le_refl _) ?_
  exact g3
theorem z_cp4 (hT : w.1.stackTraces = false) : ∃ J, (∀ a, a ≠ mx_imageRow → J a = I a) ∧ (∀ x, x < 399 → J mx_imageRow x = I mx_now x) ∧ ab_U w d mt_M_copyTo [.ref mx_imageRow, .ref mx_now] I L n nc ns J := by
  have loop : ∀ m i (J : Nat → Nat → Int32), i + m = 399 → (∀ a, a ≠ mx_imageRow → J a = I a) → (∀ x, x < i → J mx_imageRow x = I mx_now x) → ∃ J', (∀ a, a ≠ mx_imageRow → J' a = I a) ∧ (∀ x, x < 399 → J' mx_imageRow x = I mx_now x) ∧ ab_E w d mt_M_copyTo 2 [.ref mx_imageRow, .ref mx_now, .int (nI i)] [] (J, L, ab_RR, n, nc, ns) (.inl none, (J', L, ab_RR, n, nc, ns)) := by
    intro m
    induction m with
    | zero =>
      intro i J hi h1 h2
      refine ⟨J, h1, fun x hx => h2 x (by omega), ?_⟩
      refine r_M_copyTo_4_2 hT _ (Nat.le_refl _) (Nat.le_refl _) ?_
      exact bb_t (nI_le (a := 399) (by omega) (by omega)) rfl
    | succ m ih =>
      intro i J hi h1 h2
      have hp : J mx_now = I mx_now := h1 _ (by decide)
      obtain ⟨J', g1, g2, g3⟩ := ih (i + 1) (ab_up J mx_imageRow i (J mx_now i)) (by omega) (fun a ha => by rw [ab_up_o ha]; exact h1 a ha) (fun x hx => by
        rw [ab_up_i]
        by_cases e : x = i
        · rw [e, pk_us, hp]
        · rw [pk_un e]; exact h2 x (by omega))
      refine ⟨J', g1, g2, ?_⟩
      refine r_M_copyTo_4_2 hT _ (Nat.le_refl _) (Nat.le_refl _) ?_
      rw [nI_clamp (by omega), nI_1]
      exact bb_f (fun h => by have := (nI_leI (a := 399) (by omega) (by omega)).mp h; omega) ⟨vp_in_nI (by omega) (by omega), g3⟩
  obtain ⟨J', g1, g2, g3⟩ := loop 399 0 I (by omega) (fun _ _ => rfl) (fun x hx => absurd hx (Nat.not_lt_zero x))
  refine ⟨J', g1, g2, ?_⟩
  refine ab_C_of (by decide) rfl (Nat.le_of_ble_eq_true rfl) hT ?_
  refine r_M_copyTo_4_0 hT (Nat.le_refl _) (Nat.le_refl _) ?_
  exact g3
theorem z_cp5 (hT : w.1.stackTraces = false) : ∃ J, (∀ a, a ≠ mx_pastThen → J a = I a) ∧ (∀ x, x < 15960 → J mx_pastThen x = I mx_past x) ∧ ab_U w d mt_M_copyTo [.ref mx_pastThen, .ref mx_past] I L n nc ns J := by
  have loop : ∀ m i (J : Nat → Nat → Int32), i + m = 15960 → (∀ a, a ≠ mx_pastThen → J a = I a) → (∀ x, x < i → J mx_pastThen x = I mx_past x) → ∃ J', (∀ a, a ≠ mx_pastThen → J' a = I a) ∧ (∀ x, x < 15960 → J' mx_pastThen x = I mx_past x) ∧ ab_E w d mt_M_copyTo 2 [.ref mx_pastThen, .ref mx_past, .int (nI i)] [] (J, L, ab_RR, n, nc, ns) (.inl none, (J', L, ab_RR, n, nc, ns)) := by
    intro m
    induction m with
    | zero =>
      intro i J hi h1 h2
      refine ⟨J, h1, fun x hx => h2 x (by omega), ?_⟩
      refine r_M_copyTo_5_2 hT _ (Nat.le_refl _) (Nat.le_refl _) ?_
      exact bb_t (nI_le (a := 15960) (by omega) (by omega)) rfl
    | succ m ih =>
      intro i J hi h1 h2
      have hp : J mx_past = I mx_past := h1 _ (by decide)
      obtain ⟨J', g1, g2, g3⟩ := ih (i + 1) (ab_up J mx_pastThen i (J mx_past i)) (by omega) (fun a ha => by rw [ab_up_o ha]; exact h1 a ha) (fun x hx => by
        rw [ab_up_i]
        by_cases e : x = i
        · rw [e, pk_us, hp]
        · rw [pk_un e]; exact h2 x (by omega))
      refine ⟨J', g1, g2, ?_⟩
      refine r_M_copyTo_5_2 hT _ (Nat.le_refl _) (Nat.le_refl _) ?_
      rw [nI_clamp (by omega), nI_1]
      exact bb_f (fun h => by have := (nI_leI (a := 15960) (by omega) (by omega)).mp h; omega) ⟨vp_in_nI (by omega) (by omega), g3⟩
  obtain ⟨J', g1, g2, g3⟩ := loop 15960 0 I (by omega) (fun _ _ => rfl) (fun x hx => absurd hx (Nat.not_lt_zero x))
  refine ⟨J', g1, g2, ?_⟩
  refine ab_C_of (by decide) rfl (Nat.le_of_ble_eq_true rfl) hT ?_
  refine r_M_copyTo_5_0 hT (Nat.le_refl _) (Nat.le_refl _) ?_
  exact g3
theorem z_cp6 (hT : w.1.stackTraces = false) : ∃ J, (∀ a, a ≠ mx_notedCableThen → J a = I a) ∧ (∀ x, x < 8 → J mx_notedCableThen x = I mx_notedCable x) ∧ ab_U w d mt_M_copyTo [.ref mx_notedCableThen, .ref mx_notedCable] I L n nc ns J := by
  have loop : ∀ m i (J : Nat → Nat → Int32), i + m = 8 → (∀ a, a ≠ mx_notedCableThen → J a = I a) → (∀ x, x < i → J mx_notedCableThen x = I mx_notedCable x) → ∃ J', (∀ a, a ≠ mx_notedCableThen → J' a = I a) ∧ (∀ x, x < 8 → J' mx_notedCableThen x = I mx_notedCable x) ∧ ab_E w d mt_M_copyTo 2 [.ref mx_notedCableThen, .ref mx_notedCable, .int (nI i)] [] (J, L, ab_RR, n, nc, ns) (.inl none, (J', L, ab_RR, n, nc, ns)) := by
    intro m
    induction m with
    | zero =>
      intro i J hi h1 h2
      refine ⟨J, h1, fun x hx => h2 x (by omega), ?_⟩
      refine r_M_copyTo_6_2 hT _ (Nat.le_refl _) (Nat.le_refl _) ?_
      exact bb_t (nI_le (a := 8) (by omega) (by omega)) rfl
    | succ m ih =>
      intro i J hi h1 h2
      have hp : J mx_notedCable = I mx_notedCable := h1 _ (by decide)
      obtain ⟨J', g1, g2, g3⟩ := ih (i + 1) (ab_up J mx_notedCableThen i (J mx_notedCable i)) (by omega) (fun a ha => by rw [ab_up_o ha]; exact h1 a ha) (fun x hx => by
        rw [ab_up_i]
        by_cases e : x = i
        · rw [e, pk_us, hp]
        · rw [pk_un e]; exact h2 x (by omega))
      refine ⟨J', g1, g2, ?_⟩
      refine r_M_copyTo_6_2 hT _ (Nat.le_refl _) (Nat.le_refl _) ?_
      rw [nI_clamp (by omega), nI_1]
      exact bb_f (fun h => by have := (nI_leI (a := 8) (by omega) (by omega)).mp h; omega) ⟨vp_in_nI (by omega) (by omega), g3⟩
  obtain ⟨J', g1, g2, g3⟩ := loop 8 0 I (by omega) (fun _ _ => rfl) (fun x hx => absurd hx (Nat.not_lt_zero x))
  refine ⟨J', g1, g2, ?_⟩
  refine ab_C_of (by decide) rfl (Nat.le_of_ble_eq_true rfl) hT ?_
  refine r_M_copyTo_6_0 hT (Nat.le_refl _) (Nat.le_refl _) ?_
  exact g3
theorem z_cp7 (hT : w.1.stackTraces = false) : ∃ J, (∀ a, a ≠ mx_notedInThen → J a = I a) ∧ (∀ x, x < 8 → J mx_notedInThen x = I mx_notedIn x) ∧ ab_U w d mt_M_copyTo [.ref mx_notedInThen, .ref mx_notedIn] I L n nc ns J := by
  have loop : ∀ m i (J : Nat → Nat → Int32), i + m = 8 → (∀ a, a ≠ mx_notedInThen → J a = I a) → (∀ x, x < i → J mx_notedInThen x = I mx_notedIn x) → ∃ J', (∀ a, a ≠ mx_notedInThen → J' a = I a) ∧ (∀ x, x < 8 → J' mx_notedInThen x = I mx_notedIn x) ∧ ab_E w d mt_M_copyTo 2 [.ref mx_notedInThen, .ref mx_notedIn, .int (nI i)] [] (J, L, ab_RR, n, nc, ns) (.inl none, (J', L, ab_RR, n, nc, ns)) := by
    intro m
    induction m with
    | zero =>
      intro i J hi h1 h2
      refine ⟨J, h1, fun x hx => h2 x (by omega), ?_⟩
      refine r_M_copyTo_7_2 hT _ (Nat.le_refl _) (Nat.le_refl _) ?_
      exact bb_t (nI_le (a := 8) (by omega) (by omega)) rfl
    | succ m ih =>
      intro i J hi h1 h2
      have hp : J mx_notedIn = I mx_notedIn := h1 _ (by decide)
      obtain ⟨J', g1, g2, g3⟩ := ih (i + 1) (ab_up J mx_notedInThen i (J mx_notedIn i)) (by omega) (fun a ha => by rw [ab_up_o ha]; exact h1 a ha) (fun x hx => by
        rw [ab_up_i]
        by_cases e : x = i
        · rw [e, pk_us, hp]
        · rw [pk_un e]; exact h2 x (by omega))
      refine ⟨J', g1, g2, ?_⟩
      refine r_M_copyTo_7_2 hT _ (Nat.le_refl _) (Nat.le_refl _) ?_
      rw [nI_clamp (by omega), nI_1]
      exact bb_f (fun h => by have := (nI_leI (a := 8) (by omega) (by omega)).mp h; omega) ⟨vp_in_nI (by omega) (by omega), g3⟩
  obtain ⟨J', g1, g2, g3⟩ := loop 8 0 I (by omega) (fun _ _ => rfl) (fun x hx => absurd hx (Nat.not_lt_zero x))
  refine ⟨J', g1, g2, ?_⟩
  refine ab_C_of (by decide) rfl (Nat.le_of_ble_eq_true rfl) hT ?_
  refine r_M_copyTo_7_0 hT (Nat.le_refl _) (Nat.le_refl _) ?_
  exact g3
theorem z_cp8 (hT : w.1.stackTraces = false) : ∃ J, (∀ a, a ≠ mx_statusThen → J a = I a) ∧ (∀ x, x < 3 → J mx_statusThen x = I mx_status x) ∧ ab_U w d mt_M_copyTo [.ref mx_statusThen, .ref mx_status] I L n nc ns J := by
  have loop : ∀ m i (J : Nat → Nat → Int32), i + m = 3 → (∀ a, a ≠ mx_statusThen → J a = I a) → (∀ x, x < i → J mx_statusThen x = I mx_status x) → ∃ J', (∀ a, a ≠ mx_statusThen → J' a = I a) ∧ (∀ x, x < 3 → J' mx_statusThen x = I mx_status x) ∧ ab_E w d mt_M_copyTo 2 [.ref mx_statusThen, .ref mx_status, .int (nI i)] [] (J, L, ab_RR, n, nc, ns) (.inl none, (J', L, ab_RR, n, nc, ns)) := by
    intro m
    induction m with
    | zero =>
      intro i J hi h1 h2
      refine ⟨J, h1, fun x hx => h2 x (by omega), ?_⟩
      refine r_M_copyTo_8_2 hT _ (Nat.le_refl _) (Nat.le_refl _) ?_
      exact bb_t (nI_le (a := 3) (by omega) (by omega)) rfl
    | succ m ih =>
      intro i J hi h1 h2
      have hp : J mx_status = I mx_status := h1 _ (by decide)
      obtain ⟨J', g1, g2, g3⟩ := ih (i + 1) (ab_up J mx_statusThen i (J mx_status i)) (by omega) (fun a ha => by rw [ab_up_o ha]; exact h1 a ha) (fun x hx => by
        rw [ab_up_i]
        by_cases e : x = i
        · rw [e, pk_us, hp]
        · rw [pk_un e]; exact h2 x (by omega))
      refine ⟨J', g1, g2, ?_⟩
      refine r_M_copyTo_8_2 hT _ (Nat.le_refl _) (Nat.le_refl _) ?_
      rw [nI_clamp (by omega), nI_1]
      exact bb_f (fun h => by have := (nI_leI (a := 3) (by omega) (by omega)).mp h; omega) ⟨vp_in_nI (by omega) (by omega), g3⟩
  obtain ⟨J', g1, g2, g3⟩ := loop 3 0 I (by omega) (fun _ _ => rfl) (fun x hx => absurd hx (Nat.not_lt_zero x))
  refine ⟨J', g1, g2, ?_⟩
  refine ab_C_of (by decide) rfl (Nat.le_of_ble_eq_true rfl) hT ?_
  refine r_M_copyTo_8_0 hT (Nat.le_refl _) (Nat.le_refl _) ?_
  exact g3
theorem z_cp9 (hT : w.1.stackTraces = false) : ∃ J, (∀ a, a ≠ mx_now → J a = I a) ∧ (∀ x, x < 399 → J mx_now x = I mx_imageRow x) ∧ ab_U w d mt_M_copyTo [.ref mx_now, .ref mx_imageRow] I L n nc ns J := by
  have loop : ∀ m i (J : Nat → Nat → Int32), i + m = 399 → (∀ a, a ≠ mx_now → J a = I a) → (∀ x, x < i → J mx_now x = I mx_imageRow x) → ∃ J', (∀ a, a ≠ mx_now → J' a = I a) ∧ (∀ x, x < 399 → J' mx_now x = I mx_imageRow x) ∧ ab_E w d mt_M_copyTo 2 [.ref mx_now, .ref mx_imageRow, .int (nI i)] [] (J, L, ab_RR, n, nc, ns) (.inl none, (J', L, ab_RR, n, nc, ns)) := by
    intro m
    induction m with
    | zero =>
      intro i J hi h1 h2
      refine ⟨J, h1, fun x hx => h2 x (by omega), ?_⟩
      refine r_M_copyTo_9_2 hT _ (Nat.le_refl _) (Nat.le_refl _) ?_
      exact bb_t (nI_le (a := 399) (by omega) (by omega)) rfl
    | succ m ih =>
      intro i J hi h1 h2
      have hp : J mx_imageRow = I mx_imageRow := h1 _ (by decide)
      obtain ⟨J', g1, g2, g3⟩ := ih (i + 1) (ab_up J mx_now i (J mx_imageRow i)) (by omega) (fun a ha => by rw [ab_up_o ha]; exact h1 a ha) (fun x hx => by
        rw [ab_up_i]
        by_cases e : x = i
        · rw [e, pk_us, hp]
        · rw [pk_un e]; exact h2 x (by omega))
      refine ⟨J', g1, g2, ?_⟩
      refine r_M_copyTo_9_2 hT _ (Nat.le_refl _) (Nat.le_refl _) ?_
      rw [nI_clamp (by omega), nI_1]
      exact bb_f (fun h => by have := (nI_leI (a := 399) (by omega) (by omega)).mp h; omega) ⟨vp_in_nI (by omega) (by omega), g3⟩
  obtain ⟨J', g1, g2, g3⟩ := loop 399 0 I (by omega) (fun _ _ => rfl) (fun x hx => absurd hx (Nat.not_lt_zero x))
  refine ⟨J', g1, g2, ?_⟩
  refine ab_C_of (by decide) rfl (Nat.le_of_ble_eq_true rfl) hT ?_
  refine r_M_copyTo_9_0 hT (Nat.le_refl _) (Nat.le_refl _) ?_
  exact g3
theorem z_cp10 (hT : w.1.stackTraces = false) : ∃ J, (∀ a, a ≠ mx_status → J a = I a) ∧ (∀ x, x < 3 → J mx_status x = I mx_statusThen x) ∧ ab_U w d mt_M_copyTo [.ref mx_status, .ref mx_statusThen] I L n nc ns J := by
  have loop : ∀ m i (J : Nat → Nat → Int32), i + m = 3 → (∀ a, a ≠ mx_status → J a = I a) → (∀ x, x < i → J mx_status x = I mx_statusThen x) → ∃ J', (∀ a, a ≠ mx_status → J' a = I a) ∧ (∀ x, x < 3 → J' mx_status x = I mx_statusThen x) ∧ ab_E w d mt_M_copyTo 2 [.ref mx_status, .ref mx_statusThen, .int (nI i)] [] (J, L, ab_RR, n, nc, ns) (.inl none, (J', L, ab_RR, n, nc, ns)) := by
    intro m
    induction m with
    | zero =>
      intro i J hi h1 h2
      refine ⟨J, h1, fun x hx => h2 x (by omega), ?_⟩
      refine r_M_copyTo_10_2 hT _ (Nat.le_refl _) (Nat.le_refl _) ?_
      exact bb_t (nI_le (a := 3) (by omega) (by omega)) rfl
    | succ m ih =>
      intro i J hi h1 h2
      have hp : J mx_statusThen = I mx_statusThen := h1 _ (by decide)
      obtain ⟨J', g1, g2, g3⟩ := ih (i + 1) (ab_up J mx_status i (J mx_statusThen i)) (by omega) (fun a ha => by rw [ab_up_o ha]; exact h1 a ha) (fun x hx => by
        rw [ab_up_i]
        by_cases e : x = i
        · rw [e, pk_us, hp]
        · rw [pk_un e]; exact h2 x (by omega))
      refine ⟨J', g1, g2, ?_⟩
      refine r_M_copyTo_10_2 hT _ (Nat.le_refl _) (Nat.le_refl _) ?_
      rw [nI_clamp (by omega), nI_1]
      exact bb_f (fun h => by have := (nI_leI (a := 3) (by omega) (by omega)).mp h; omega) ⟨vp_in_nI (by omega) (by omega), g3⟩
  obtain ⟨J', g1, g2, g3⟩ := loop 3 0 I (by omega) (fun _ _ => rfl) (fun x hx => absurd hx (Nat.not_lt_zero x))
  refine ⟨J', g1, g2, ?_⟩
  refine ab_C_of (by decide) rfl (Nat.le_of_ble_eq_true rfl) hT ?_
  refine r_M_copyTo_10_0 hT (Nat.le_refl _) (Nat.le_refl _) ?_
  exact g3
theorem z_cp11 (hT : w.1.stackTraces = false) : ∃ J, (∀ a, a ≠ mx_past → J a = I a) ∧ (∀ x, x < 15960 → J mx_past x = I mx_pastThen x) ∧ ab_U w d mt_M_copyTo [.ref mx_past, .ref mx_pastThen] I L n nc ns J := by
  have loop : ∀ m i (J : Nat → Nat → Int32), i + m = 15960 → (∀ a, a ≠ mx_past → J a = I a) → (∀ x, x < i → J mx_past x = I mx_pastThen x) → ∃ J', (∀ a, a ≠ mx_past → J' a = I a) ∧ (∀ x, x < 15960 → J' mx_past x = I mx_pastThen x) ∧ ab_E w d mt_M_copyTo 2 [.ref mx_past, .ref mx_pastThen, .int (nI i)] [] (J, L, ab_RR, n, nc, ns) (.inl none, (J', L, ab_RR, n, nc, ns)) := by
    intro m
    induction m with
    | zero =>
      intro i J hi h1 h2
      refine ⟨J, h1, fun x hx => h2 x (by omega), ?_⟩
      refine r_M_copyTo_11_2 hT _ (Nat.le_refl _) (Nat.le_refl _) ?_
      exact bb_t (nI_le (a := 15960) (by omega) (by omega)) rfl
    | succ m ih =>
      intro i J hi h1 h2
      have hp : J mx_pastThen = I mx_pastThen := h1 _ (by decide)
      obtain ⟨J', g1, g2, g3⟩ := ih (i + 1) (ab_up J mx_past i (J mx_pastThen i)) (by omega) (fun a ha => by rw [ab_up_o ha]; exact h1 a ha) (fun x hx => by
        rw [ab_up_i]
        by_cases e : x = i
        · rw [e, pk_us, hp]
        · rw [pk_un e]; exact h2 x (by omega))
      refine ⟨J', g1, g2, ?_⟩
      refine r_M_copyTo_11_2 hT _ (Nat.le_refl _) (Nat.le_refl _) ?_
      rw [nI_clamp (by omega), nI_1]
      exact bb_f (fun h => by have := (nI_leI (a := 15960) (by omega) (by omega)).mp h; omega) ⟨vp_in_nI (by omega) (by omega), g3⟩
  obtain ⟨J', g1, g2, g3⟩ := loop 15960 0 I (by omega) (fun _ _ => rfl) (fun x hx => absurd hx (Nat.not_lt_zero x))
  refine ⟨J', g1, g2, ?_⟩
  refine ab_C_of (by decide) rfl (Nat.le_of_ble_eq_true rfl) hT ?_
  refine r_M_copyTo_11_0 hT (Nat.le_refl _) (Nat.le_refl _) ?_
  exact g3
theorem z_cp12 (hT : w.1.stackTraces = false) : ∃ J, (∀ a, a ≠ mx_notedCable → J a = I a) ∧ (∀ x, x < 8 → J mx_notedCable x = I mx_notedCableThen x) ∧ ab_U w d mt_M_copyTo [.ref mx_notedCable, .ref mx_notedCableThen] I L n nc ns J := by
  have loop : ∀ m i (J : Nat → Nat → Int32), i + m = 8 → (∀ a, a ≠ mx_notedCable → J a = I a) → (∀ x, x < i → J mx_notedCable x = I mx_notedCableThen x) → ∃ J', (∀ a, a ≠ mx_notedCable → J' a = I a) ∧ (∀ x, x < 8 → J' mx_notedCable x = I mx_notedCableThen x) ∧ ab_E w d mt_M_copyTo 2 [.ref mx_notedCable, .ref mx_notedCableThen, .int (nI i)] [] (J, L, ab_RR, n, nc, ns) (.inl none, (J', L, ab_RR, n, nc, ns)) := by
    intro m
    induction m with
    | zero =>
      intro i J hi h1 h2
      refine ⟨J, h1, fun x hx => h2 x (by omega), ?_⟩
      refine r_M_copyTo_12_2 hT _ (Nat.le_refl _) (Nat.le_refl _) ?_
      exact bb_t (nI_le (a := 8) (by omega) (by omega)) rfl
    | succ m ih =>
      intro i J hi h1 h2
      have hp : J mx_notedCableThen = I mx_notedCableThen := h1 _ (by decide)
      obtain ⟨J', g1, g2, g3⟩ := ih (i + 1) (ab_up J mx_notedCable i (J mx_notedCableThen i)) (by omega) (fun a ha => by rw [ab_up_o ha]; exact h1 a ha) (fun x hx => by
        rw [ab_up_i]
        by_cases e : x = i
        · rw [e, pk_us, hp]
        · rw [pk_un e]; exact h2 x (by omega))
      refine ⟨J', g1, g2, ?_⟩
      refine r_M_copyTo_12_2 hT _ (Nat.le_refl _) (Nat.le_refl _) ?_
      rw [nI_clamp (by omega), nI_1]
      exact bb_f (fun h => by have := (nI_leI (a := 8) (by omega) (by omega)).mp h; omega) ⟨vp_in_nI (by omega) (by omega), g3⟩
  obtain ⟨J', g1, g2, g3⟩ := loop 8 0 I (by omega) (fun _ _ => rfl) (fun x hx => absurd hx (Nat.not_lt_zero x))
  refine ⟨J', g1, g2, ?_⟩
  refine ab_C_of (by decide) rfl (Nat.le_of_ble_eq_true rfl) hT ?_
  refine r_M_copyTo_12_0 hT (Nat.le_refl _) (Nat.le_refl _) ?_
  exact g3
theorem z_cp13 (hT : w.1.stackTraces = false) : ∃ J, (∀ a, a ≠ mx_notedIn → J a = I a) ∧ (∀ x, x < 8 → J mx_notedIn x = I mx_notedInThen x) ∧ ab_U w d mt_M_copyTo [.ref mx_notedIn, .ref mx_notedInThen] I L n nc ns J := by
  have loop : ∀ m i (J : Nat → Nat → Int32), i + m = 8 → (∀ a, a ≠ mx_notedIn → J a = I a) → (∀ x, x < i → J mx_notedIn x = I mx_notedInThen x) → ∃ J', (∀ a, a ≠ mx_notedIn → J' a = I a) ∧ (∀ x, x < 8 → J' mx_notedIn x = I mx_notedInThen x) ∧ ab_E w d mt_M_copyTo 2 [.ref mx_notedIn, .ref mx_notedInThen, .int (nI i)] [] (J, L, ab_RR, n, nc, ns) (.inl none, (J', L, ab_RR, n, nc, ns)) := by
    intro m
    induction m with
    | zero =>
      intro i J hi h1 h2
      refine ⟨J, h1, fun x hx => h2 x (by omega), ?_⟩
      refine r_M_copyTo_13_2 hT _ (Nat.le_refl _) (Nat.le_refl _) ?_
      exact bb_t (nI_le (a := 8) (by omega) (by omega)) rfl
    | succ m ih =>
      intro i J hi h1 h2
      have hp : J mx_notedInThen = I mx_notedInThen := h1 _ (by decide)
      obtain ⟨J', g1, g2, g3⟩ := ih (i + 1) (ab_up J mx_notedIn i (J mx_notedInThen i)) (by omega) (fun a ha => by rw [ab_up_o ha]; exact h1 a ha) (fun x hx => by
        rw [ab_up_i]
        by_cases e : x = i
        · rw [e, pk_us, hp]
        · rw [pk_un e]; exact h2 x (by omega))
      refine ⟨J', g1, g2, ?_⟩
      refine r_M_copyTo_13_2 hT _ (Nat.le_refl _) (Nat.le_refl _) ?_
      rw [nI_clamp (by omega), nI_1]
      exact bb_f (fun h => by have := (nI_leI (a := 8) (by omega) (by omega)).mp h; omega) ⟨vp_in_nI (by omega) (by omega), g3⟩
  obtain ⟨J', g1, g2, g3⟩ := loop 8 0 I (by omega) (fun _ _ => rfl) (fun x hx => absurd hx (Nat.not_lt_zero x))
  refine ⟨J', g1, g2, ?_⟩
  refine ab_C_of (by decide) rfl (Nat.le_of_ble_eq_true rfl) hT ?_
  refine r_M_copyTo_13_0 hT (Nat.le_refl _) (Nat.le_refl _) ?_
  exact g3
end MCP
