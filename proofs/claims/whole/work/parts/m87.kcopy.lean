/-! COPIES: the state of the class, to and from the image -/
section KCP
variable {w : ab_Wd} {d n nc ns : Nat} {I : Nat → Nat → Int32} {L : Nat → Nat → Int64}
theorem k_keep (hT : w.1.stackTraces = false) : ∃ J, (∀ c, c ≠ kx_kept → c ≠ kx_kept_cables → c ≠ kx_kept_cables_first → c ≠ kx_kept_cables_second → c ≠ kx_kept_cables_price → c ≠ kx_kept_cables_firm → c ≠ kx_kept_cables_order → c ≠ kx_kept_swaps → c ≠ kx_kept_swaps_rows → c ≠ kx_kept_acts → c ≠ kx_kept_acts_prices → c ≠ kx_kept_acts_counts → c ≠ kx_kept_acts_sounds → c ≠ kx_kept_acts_swaps → c ≠ kx_kept_refused → J c = I c) ∧ (∀ k, 3 ≤ k → k < 6 → J kx_kept k = I kx_now k) ∧ (∀ k, k < 3 → J kx_kept_cables k = I kx_now_cables k) ∧ J kx_kept_swaps 1 = I kx_now_swaps 1 ∧ J kx_kept_acts 4 = I kx_now_acts 4 ∧ J kx_kept_acts 5 = I kx_now_acts 5 ∧ (∀ k, k < 24 → J kx_kept_cables_first k = I kx_now_cables_first k) ∧ (∀ k, k < 24 → J kx_kept_cables_second k = I kx_now_cables_second k) ∧ (∀ k, k < 24 → J kx_kept_cables_price k = I kx_now_cables_price k) ∧ (∀ k, k < 24 → J kx_kept_cables_firm k = I kx_now_cables_firm k) ∧ (∀ k, k < 24 → J kx_kept_cables_order k = I kx_now_cables_order k) ∧ (∀ k, k < 1024 → J kx_kept_swaps_rows k = I kx_now_swaps_rows k) ∧ (∀ k, k < 960 → J kx_kept_acts_prices k = I kx_now_acts_prices k) ∧ (∀ k, k < 40 → J kx_kept_acts_counts k = I kx_now_acts_counts k) ∧ (∀ k, k < 40 → J kx_kept_acts_sounds k = I kx_now_acts_sounds k) ∧ (∀ k, k < 40 → J kx_kept_acts_swaps k = I kx_now_acts_swaps k) ∧ (∀ k, k < 3 → J kx_kept_refused k = I kx_now_refused k) ∧ ab_U w (d + 2) mt_State_copy [.ref kx_kept, .ref kx_now] I L n nc ns J := by
  obtain ⟨I2, h2⟩ : ∃ K, K = (ab_row (ab_row (ab_row (ab_row (ab_row (ab_up (ab_up (ab_up I kx_kept_cables 0 (I kx_now_cables 0)) kx_kept_cables 1 (I kx_now_cables 1)) kx_kept_cables 2 (I kx_now_cables 2)) kx_kept_cables_first (va_cpy (I kx_now_cables_first) (I kx_kept_cables_first) 0 0 24)) kx_kept_cables_second (va_cpy (I kx_now_cables_second) (I kx_kept_cables_second) 0 0 24)) kx_kept_cables_price (va_cpy (I kx_now_cables_price) (I kx_kept_cables_price) 0 0 24)) kx_kept_cables_firm (va_cpy (I kx_now_cables_firm) (I kx_kept_cables_firm) 0 0 24)) kx_kept_cables_order (va_cpy (I kx_now_cables_order) (I kx_kept_cables_order) 0 0 24)) := ⟨_, rfl⟩
  obtain ⟨I4, h4⟩ : ∃ K, K = ab_row (ab_up I2 kx_kept_swaps 1 (I2 kx_now_swaps 1)) kx_kept_swaps_rows (va_cpy (I2 kx_now_swaps_rows) (I2 kx_kept_swaps_rows) 0 0 1024) := ⟨_, rfl⟩
  obtain ⟨I6, h6⟩ : ∃ K, K = ab_up (ab_up (ab_row (ab_row (ab_row (ab_row I4 kx_kept_acts_prices (va_cpy (I4 kx_now_acts_prices) (I4 kx_kept_acts_prices) 0 0 960)) kx_kept_acts_counts (va_cpy (I4 kx_now_acts_counts) (I4 kx_kept_acts_counts) 0 0 40)) kx_kept_acts_sounds (va_cpy (I4 kx_now_acts_sounds) (I4 kx_kept_acts_sounds) 0 0 40)) kx_kept_acts_swaps (va_cpy (I4 kx_now_acts_swaps) (I4 kx_kept_acts_swaps) 0 0 40)) kx_kept_acts 4 (I4 kx_now_acts 4)) kx_kept_acts 5 (I4 kx_now_acts 5) := ⟨_, rfl⟩
  obtain ⟨J, hJ⟩ : ∃ K, K = ab_row (ab_up (ab_up (ab_up I6 kx_kept 3 (I6 kx_now 3)) kx_kept 4 (I6 kx_now 4)) kx_kept 5 (I6 kx_now 5)) kx_kept_refused (va_cpy (I6 kx_now_refused) (I6 kx_kept_refused) 0 0 3) := ⟨_, rfl⟩
  have f2 : ∀ c, c ≠ kx_kept_cables → c ≠ kx_kept_cables_first → c ≠ kx_kept_cables_second → c ≠ kx_kept_cables_price → c ≠ kx_kept_cables_firm → c ≠ kx_kept_cables_order → I2 c = I c := fun c c1 c2 c3 c4 c5 c6 => by
    rw [h2, ab_row_ne c6, ab_row_ne c5, ab_row_ne c4, ab_row_ne c3, ab_row_ne c2, ab_up_o c1, ab_up_o c1, ab_up_o c1]
  have f4 : ∀ c, c ≠ kx_kept_swaps → c ≠ kx_kept_swaps_rows → I4 c = I2 c := fun c c7 c8 => by
    rw [h4, ab_row_ne c8, ab_up_o c7]
  have f6 : ∀ c, c ≠ kx_kept_acts → c ≠ kx_kept_acts_prices → c ≠ kx_kept_acts_counts → c ≠ kx_kept_acts_sounds → c ≠ kx_kept_acts_swaps → I6 c = I4 c := fun c c9 c10 c11 c12 c13 => by
    rw [h6, ab_up_o c9, ab_up_o c9, ab_row_ne c13, ab_row_ne c12, ab_row_ne c11, ab_row_ne c10]
  have f8 : ∀ c, c ≠ kx_kept → c ≠ kx_kept_refused → J c = I6 c := fun c c0 c14 => by
    rw [hJ, ab_row_ne c14, ab_up_o c0, ab_up_o c0, ab_up_o c0]
  refine ⟨J, fun c c0 c1 c2 c3 c4 c5 c6 c7 c8 c9 c10 c11 c12 c13 c14 => ?_, ?_, ?_, ?_, ?_, ?_, ?_, ?_, ?_, ?_, ?_, ?_, ?_, ?_, ?_, ?_, ?_, ?_⟩
  · rw [f8 c c0 c14, f6 c c9 c10 c11 c12 c13, f4 c c7 c8, f2 c c1 c2 c3 c4 c5 c6]
  · intro k h1 h9
    have s : I6 kx_now = I kx_now := by rw [f6 _ (by decide) (by decide) (by decide) (by decide) (by decide), f4 _ (by decide) (by decide), f2 _ (by decide) (by decide) (by decide) (by decide) (by decide) (by decide)]
    rw [hJ, ab_row_ne (by decide), ab_up_i, ab_up_i, ab_up_i, s]
    have hk : k = 3 ∨ k = 4 ∨ k = 5 := by omega
    rcases hk with e | e | e <;> subst e
    · rw [pk_un (by decide), pk_un (by decide), pk_us]
    · rw [pk_un (by decide), pk_us]
    · rw [pk_us]
  · intro k h9
    rw [f8 _ (by decide) (by decide), f6 _ (by decide) (by decide) (by decide) (by decide) (by decide), f4 _ (by decide) (by decide), h2, ab_row_ne (by decide), ab_row_ne (by decide), ab_row_ne (by decide), ab_row_ne (by decide), ab_row_ne (by decide), ab_up_i, ab_up_i, ab_up_i]
    have hk : k = 0 ∨ k = 1 ∨ k = 2 := by omega
    rcases hk with e | e | e <;> subst e
    · rw [pk_un (by decide), pk_un (by decide), pk_us]
    · rw [pk_un (by decide), pk_us]
    · rw [pk_us]
  · rw [f8 _ (by decide) (by decide), f6 _ (by decide) (by decide) (by decide) (by decide) (by decide), h4, ab_row_ne (by decide), ab_up_i, pk_us, f2 _ (by decide) (by decide) (by decide) (by decide) (by decide) (by decide)]
  · rw [f8 _ (by decide) (by decide), h6, ab_up_i, pk_un (by decide), ab_up_i, pk_us, f4 _ (by decide) (by decide), f2 _ (by decide) (by decide) (by decide) (by decide) (by decide) (by decide)]
  · rw [f8 _ (by decide) (by decide), h6, ab_up_i, pk_us, f4 _ (by decide) (by decide), f2 _ (by decide) (by decide) (by decide) (by decide) (by decide) (by decide)]
  · intro k h9
    rw [f8 _ (by decide) (by decide), f6 _ (by decide) (by decide) (by decide) (by decide) (by decide), f4 _ (by decide) (by decide), h2, ab_row_ne (by decide), ab_row_ne (by decide), ab_row_ne (by decide), ab_row_ne (by decide), ab_row_eq, cpy_at h9]
  · intro k h9
    rw [f8 _ (by decide) (by decide), f6 _ (by decide) (by decide) (by decide) (by decide) (by decide), f4 _ (by decide) (by decide), h2, ab_row_ne (by decide), ab_row_ne (by decide), ab_row_ne (by decide), ab_row_eq, cpy_at h9]
  · intro k h9
    rw [f8 _ (by decide) (by decide), f6 _ (by decide) (by decide) (by decide) (by decide) (by decide), f4 _ (by decide) (by decide), h2, ab_row_ne (by decide), ab_row_ne (by decide), ab_row_eq, cpy_at h9]
  · intro k h9
    rw [f8 _ (by decide) (by decide), f6 _ (by decide) (by decide) (by decide) (by decide) (by decide), f4 _ (by decide) (by decide), h2, ab_row_ne (by decide), ab_row_eq, cpy_at h9]
  · intro k h9
    rw [f8 _ (by decide) (by decide), f6 _ (by decide) (by decide) (by decide) (by decide) (by decide), f4 _ (by decide) (by decide), h2, ab_row_eq, cpy_at h9]
  · intro k h9
    rw [f8 _ (by decide) (by decide), f6 _ (by decide) (by decide) (by decide) (by decide) (by decide), h4, ab_row_eq, cpy_at h9, f2 _ (by decide) (by decide) (by decide) (by decide) (by decide) (by decide)]
  · intro k h9
    rw [f8 _ (by decide) (by decide), h6, ab_up_o (by decide), ab_up_o (by decide), ab_row_ne (by decide), ab_row_ne (by decide), ab_row_ne (by decide), ab_row_eq, cpy_at h9, f4 _ (by decide) (by decide), f2 _ (by decide) (by decide) (by decide) (by decide) (by decide) (by decide)]
  · intro k h9
    rw [f8 _ (by decide) (by decide), h6, ab_up_o (by decide), ab_up_o (by decide), ab_row_ne (by decide), ab_row_ne (by decide), ab_row_eq, cpy_at h9, f4 _ (by decide) (by decide), f2 _ (by decide) (by decide) (by decide) (by decide) (by decide) (by decide)]
  · intro k h9
    rw [f8 _ (by decide) (by decide), h6, ab_up_o (by decide), ab_up_o (by decide), ab_row_ne (by decide), ab_row_eq, cpy_at h9, f4 _ (by decide) (by decide), f2 _ (by decide) (by decide) (by decide) (by decide) (by decide) (by decide)]
  · intro k h9
    rw [f8 _ (by decide) (by decide), h6, ab_up_o (by decide), ab_up_o (by decide), ab_row_eq, cpy_at h9, f4 _ (by decide) (by decide), f2 _ (by decide) (by decide) (by decide) (by decide) (by decide) (by decide)]
  · intro k h9
    rw [hJ, ab_row_eq, cpy_at h9, f6 _ (by decide) (by decide) (by decide) (by decide) (by decide), f4 _ (by decide) (by decide), f2 _ (by decide) (by decide) (by decide) (by decide) (by decide) (by decide)]
  · refine ab_C_of (by decide) rfl (Nat.le_of_ble_eq_true rfl) hT ?_
    refine r_State_copy_0_0 hT (Nat.le_refl _) (Nat.le_refl _) ?_
    refine ⟨I2, ?_, I4, ?_, I6, ?_, by rw [← hJ]⟩
    · rw [h2]
      refine ab_C_of (by decide) rfl (Nat.le_of_ble_eq_true rfl) hT ?_
      refine r_Cables_copy_2_0 hT (Nat.le_refl _) (Nat.le_refl _) ?_
      rfl
    · rw [h4]
      refine ab_C_of (by decide) rfl (Nat.le_of_ble_eq_true rfl) hT ?_
      refine r_Swaps_copy_0_0 hT (Nat.le_refl _) (Nat.le_refl _) ?_
      rfl
    · rw [h6]
      refine ab_C_of (by decide) rfl (Nat.le_of_ble_eq_true rfl) hT ?_
      refine r_Acts_copy_0_0 hT (Nat.le_refl _) (Nat.le_refl _) ?_
      rfl
theorem k_back (hT : w.1.stackTraces = false) : ∃ J, (∀ c, c ≠ kx_now → c ≠ kx_now_cables → c ≠ kx_now_cables_first → c ≠ kx_now_cables_second → c ≠ kx_now_cables_price → c ≠ kx_now_cables_firm → c ≠ kx_now_cables_order → c ≠ kx_now_swaps → c ≠ kx_now_swaps_rows → c ≠ kx_now_acts → c ≠ kx_now_acts_prices → c ≠ kx_now_acts_counts → c ≠ kx_now_acts_sounds → c ≠ kx_now_acts_swaps → c ≠ kx_now_refused → J c = I c) ∧ (∀ k, 3 ≤ k → k < 6 → J kx_now k = I kx_kept k) ∧ (∀ k, k < 3 → J kx_now_cables k = I kx_kept_cables k) ∧ J kx_now_swaps 1 = I kx_kept_swaps 1 ∧ J kx_now_acts 4 = I kx_kept_acts 4 ∧ J kx_now_acts 5 = I kx_kept_acts 5 ∧ (∀ k, k < 24 → J kx_now_cables_first k = I kx_kept_cables_first k) ∧ (∀ k, k < 24 → J kx_now_cables_second k = I kx_kept_cables_second k) ∧ (∀ k, k < 24 → J kx_now_cables_price k = I kx_kept_cables_price k) ∧ (∀ k, k < 24 → J kx_now_cables_firm k = I kx_kept_cables_firm k) ∧ (∀ k, k < 24 → J kx_now_cables_order k = I kx_kept_cables_order k) ∧ (∀ k, k < 1024 → J kx_now_swaps_rows k = I kx_kept_swaps_rows k) ∧ (∀ k, k < 960 → J kx_now_acts_prices k = I kx_kept_acts_prices k) ∧ (∀ k, k < 40 → J kx_now_acts_counts k = I kx_kept_acts_counts k) ∧ (∀ k, k < 40 → J kx_now_acts_sounds k = I kx_kept_acts_sounds k) ∧ (∀ k, k < 40 → J kx_now_acts_swaps k = I kx_kept_acts_swaps k) ∧ (∀ k, k < 3 → J kx_now_refused k = I kx_kept_refused k) ∧ ab_U w (d + 2) mt_State_copy [.ref kx_now, .ref kx_kept] I L n nc ns J := by
  obtain ⟨I2, h2⟩ : ∃ K, K = (ab_row (ab_row (ab_row (ab_row (ab_row (ab_up (ab_up (ab_up I kx_now_cables 0 (I kx_kept_cables 0)) kx_now_cables 1 (I kx_kept_cables 1)) kx_now_cables 2 (I kx_kept_cables 2)) kx_now_cables_first (va_cpy (I kx_kept_cables_first) (I kx_now_cables_first) 0 0 24)) kx_now_cables_second (va_cpy (I kx_kept_cables_second) (I kx_now_cables_second) 0 0 24)) kx_now_cables_price (va_cpy (I kx_kept_cables_price) (I kx_now_cables_price) 0 0 24)) kx_now_cables_firm (va_cpy (I kx_kept_cables_firm) (I kx_now_cables_firm) 0 0 24)) kx_now_cables_order (va_cpy (I kx_kept_cables_order) (I kx_now_cables_order) 0 0 24)) := ⟨_, rfl⟩
  obtain ⟨I4, h4⟩ : ∃ K, K = ab_row (ab_up I2 kx_now_swaps 1 (I2 kx_kept_swaps 1)) kx_now_swaps_rows (va_cpy (I2 kx_kept_swaps_rows) (I2 kx_now_swaps_rows) 0 0 1024) := ⟨_, rfl⟩
  obtain ⟨I6, h6⟩ : ∃ K, K = ab_up (ab_up (ab_row (ab_row (ab_row (ab_row I4 kx_now_acts_prices (va_cpy (I4 kx_kept_acts_prices) (I4 kx_now_acts_prices) 0 0 960)) kx_now_acts_counts (va_cpy (I4 kx_kept_acts_counts) (I4 kx_now_acts_counts) 0 0 40)) kx_now_acts_sounds (va_cpy (I4 kx_kept_acts_sounds) (I4 kx_now_acts_sounds) 0 0 40)) kx_now_acts_swaps (va_cpy (I4 kx_kept_acts_swaps) (I4 kx_now_acts_swaps) 0 0 40)) kx_now_acts 4 (I4 kx_kept_acts 4)) kx_now_acts 5 (I4 kx_kept_acts 5) := ⟨_, rfl⟩
  obtain ⟨J, hJ⟩ : ∃ K, K = ab_row (ab_up (ab_up (ab_up I6 kx_now 3 (I6 kx_kept 3)) kx_now 4 (I6 kx_kept 4)) kx_now 5 (I6 kx_kept 5)) kx_now_refused (va_cpy (I6 kx_kept_refused) (I6 kx_now_refused) 0 0 3) := ⟨_, rfl⟩
  have f2 : ∀ c, c ≠ kx_now_cables → c ≠ kx_now_cables_first → c ≠ kx_now_cables_second → c ≠ kx_now_cables_price → c ≠ kx_now_cables_firm → c ≠ kx_now_cables_order → I2 c = I c := fun c c1 c2 c3 c4 c5 c6 => by
    rw [h2, ab_row_ne c6, ab_row_ne c5, ab_row_ne c4, ab_row_ne c3, ab_row_ne c2, ab_up_o c1, ab_up_o c1, ab_up_o c1]
  have f4 : ∀ c, c ≠ kx_now_swaps → c ≠ kx_now_swaps_rows → I4 c = I2 c := fun c c7 c8 => by
    rw [h4, ab_row_ne c8, ab_up_o c7]
  have f6 : ∀ c, c ≠ kx_now_acts → c ≠ kx_now_acts_prices → c ≠ kx_now_acts_counts → c ≠ kx_now_acts_sounds → c ≠ kx_now_acts_swaps → I6 c = I4 c := fun c c9 c10 c11 c12 c13 => by
    rw [h6, ab_up_o c9, ab_up_o c9, ab_row_ne c13, ab_row_ne c12, ab_row_ne c11, ab_row_ne c10]
  have f8 : ∀ c, c ≠ kx_now → c ≠ kx_now_refused → J c = I6 c := fun c c0 c14 => by
    rw [hJ, ab_row_ne c14, ab_up_o c0, ab_up_o c0, ab_up_o c0]
  refine ⟨J, fun c c0 c1 c2 c3 c4 c5 c6 c7 c8 c9 c10 c11 c12 c13 c14 => ?_, ?_, ?_, ?_, ?_, ?_, ?_, ?_, ?_, ?_, ?_, ?_, ?_, ?_, ?_, ?_, ?_, ?_⟩
  · rw [f8 c c0 c14, f6 c c9 c10 c11 c12 c13, f4 c c7 c8, f2 c c1 c2 c3 c4 c5 c6]
  · intro k h1 h9
    have s : I6 kx_kept = I kx_kept := by rw [f6 _ (by decide) (by decide) (by decide) (by decide) (by decide), f4 _ (by decide) (by decide), f2 _ (by decide) (by decide) (by decide) (by decide) (by decide) (by decide)]
    rw [hJ, ab_row_ne (by decide), ab_up_i, ab_up_i, ab_up_i, s]
    have hk : k = 3 ∨ k = 4 ∨ k = 5 := by omega
    rcases hk with e | e | e <;> subst e
    · rw [pk_un (by decide), pk_un (by decide), pk_us]
    · rw [pk_un (by decide), pk_us]
    · rw [pk_us]
  · intro k h9
    rw [f8 _ (by decide) (by decide), f6 _ (by decide) (by decide) (by decide) (by decide) (by decide), f4 _ (by decide) (by decide), h2, ab_row_ne (by decide), ab_row_ne (by decide), ab_row_ne (by decide), ab_row_ne (by decide), ab_row_ne (by decide), ab_up_i, ab_up_i, ab_up_i]
    have hk : k = 0 ∨ k = 1 ∨ k = 2 := by omega
    rcases hk with e | e | e <;> subst e
    · rw [pk_un (by decide), pk_un (by decide), pk_us]
    · rw [pk_un (by decide), pk_us]
    · rw [pk_us]
  · rw [f8 _ (by decide) (by decide), f6 _ (by decide) (by decide) (by decide) (by decide) (by decide), h4, ab_row_ne (by decide), ab_up_i, pk_us, f2 _ (by decide) (by decide) (by decide) (by decide) (by decide) (by decide)]
  · rw [f8 _ (by decide) (by decide), h6, ab_up_i, pk_un (by decide), ab_up_i, pk_us, f4 _ (by decide) (by decide), f2 _ (by decide) (by decide) (by decide) (by decide) (by decide) (by decide)]
  · rw [f8 _ (by decide) (by decide), h6, ab_up_i, pk_us, f4 _ (by decide) (by decide), f2 _ (by decide) (by decide) (by decide) (by decide) (by decide) (by decide)]
  · intro k h9
    rw [f8 _ (by decide) (by decide), f6 _ (by decide) (by decide) (by decide) (by decide) (by decide), f4 _ (by decide) (by decide), h2, ab_row_ne (by decide), ab_row_ne (by decide), ab_row_ne (by decide), ab_row_ne (by decide), ab_row_eq, cpy_at h9]
  · intro k h9
    rw [f8 _ (by decide) (by decide), f6 _ (by decide) (by decide) (by decide) (by decide) (by decide), f4 _ (by decide) (by decide), h2, ab_row_ne (by decide), ab_row_ne (by decide), ab_row_ne (by decide), ab_row_eq, cpy_at h9]
  · intro k h9
    rw [f8 _ (by decide) (by decide), f6 _ (by decide) (by decide) (by decide) (by decide) (by decide), f4 _ (by decide) (by decide), h2, ab_row_ne (by decide), ab_row_ne (by decide), ab_row_eq, cpy_at h9]
  · intro k h9
    rw [f8 _ (by decide) (by decide), f6 _ (by decide) (by decide) (by decide) (by decide) (by decide), f4 _ (by decide) (by decide), h2, ab_row_ne (by decide), ab_row_eq, cpy_at h9]
  · intro k h9
    rw [f8 _ (by decide) (by decide), f6 _ (by decide) (by decide) (by decide) (by decide) (by decide), f4 _ (by decide) (by decide), h2, ab_row_eq, cpy_at h9]
  · intro k h9
    rw [f8 _ (by decide) (by decide), f6 _ (by decide) (by decide) (by decide) (by decide) (by decide), h4, ab_row_eq, cpy_at h9, f2 _ (by decide) (by decide) (by decide) (by decide) (by decide) (by decide)]
  · intro k h9
    rw [f8 _ (by decide) (by decide), h6, ab_up_o (by decide), ab_up_o (by decide), ab_row_ne (by decide), ab_row_ne (by decide), ab_row_ne (by decide), ab_row_eq, cpy_at h9, f4 _ (by decide) (by decide), f2 _ (by decide) (by decide) (by decide) (by decide) (by decide) (by decide)]
  · intro k h9
    rw [f8 _ (by decide) (by decide), h6, ab_up_o (by decide), ab_up_o (by decide), ab_row_ne (by decide), ab_row_ne (by decide), ab_row_eq, cpy_at h9, f4 _ (by decide) (by decide), f2 _ (by decide) (by decide) (by decide) (by decide) (by decide) (by decide)]
  · intro k h9
    rw [f8 _ (by decide) (by decide), h6, ab_up_o (by decide), ab_up_o (by decide), ab_row_ne (by decide), ab_row_eq, cpy_at h9, f4 _ (by decide) (by decide), f2 _ (by decide) (by decide) (by decide) (by decide) (by decide) (by decide)]
  · intro k h9
    rw [f8 _ (by decide) (by decide), h6, ab_up_o (by decide), ab_up_o (by decide), ab_row_eq, cpy_at h9, f4 _ (by decide) (by decide), f2 _ (by decide) (by decide) (by decide) (by decide) (by decide) (by decide)]
  · intro k h9
    rw [hJ, ab_row_eq, cpy_at h9, f6 _ (by decide) (by decide) (by decide) (by decide) (by decide), f4 _ (by decide) (by decide), f2 _ (by decide) (by decide) (by decide) (by decide) (by decide) (by decide)]
  · refine ab_C_of (by decide) rfl (Nat.le_of_ble_eq_true rfl) hT ?_
    refine r_State_copy_1_0 hT (Nat.le_refl _) (Nat.le_refl _) ?_
    refine ⟨I2, ?_, I4, ?_, I6, ?_, by rw [← hJ]⟩
    · rw [h2]
      refine ab_C_of (by decide) rfl (Nat.le_of_ble_eq_true rfl) hT ?_
      refine r_Cables_copy_3_0 hT (Nat.le_refl _) (Nat.le_refl _) ?_
      rfl
    · rw [h4]
      refine ab_C_of (by decide) rfl (Nat.le_of_ble_eq_true rfl) hT ?_
      refine r_Swaps_copy_1_0 hT (Nat.le_refl _) (Nat.le_refl _) ?_
      rfl
    · rw [h6]
      refine ab_C_of (by decide) rfl (Nat.le_of_ble_eq_true rfl) hT ?_
      refine r_Acts_copy_1_0 hT (Nat.le_refl _) (Nat.le_refl _) ?_
      rfl
end KCP
