/-! LIKE NETS: a row of sums that isn't nothing -/
def ssm (f : Nat → Int) (a : Nat) : Nat → Int
  | 0 => 0
  | m + 1 => ssm f a m + f (a + m)
theorem ssm_lin (c d : Int) (f g : Nat → Int) (a : Nat) : ∀ m, ssm (fun x => c * f x - d * g x) a m = c * ssm f a m - d * ssm g a m := by
  intro m
  induction m with
  | zero => simp [ssm]
  | succ m ih => rw [ssm, ssm, ssm, ih]; grind
theorem ssm_cong {f g : Nat → Int} {a : Nat} : ∀ {m}, (∀ x, a ≤ x → x < a + m → f x = g x) → ssm f a m = ssm g a m := by
  intro m
  induction m with
  | zero => intro _; rfl
  | succ m ih => intro h; rw [ssm, ssm, ih (fun x h1 h2 => h x h1 (by omega)), h (a + m) (by omega) (by omega)]
theorem ssm_head (f : Nat → Int) (a : Nat) : ∀ m, ssm f a (m + 1) = f a + ssm f (a + 1) m := by
  intro m
  induction m with
  | zero => simp [ssm]
  | succ m ih =>
    rw [ssm, ih, ssm]
    rw [show a + 1 + m = a + (m + 1) by omega]; omega
/-- of a sum of what isn't above 0, but for one, each is small -/
theorem ssm_dom {f : Nat → Int} {a i j : Nat} : ∀ {m}, (∀ x, a ≤ x → x < a + m → x ≠ i → f x ≤ 0) → a ≤ j → j < a + m → j ≠ i → a ≤ i → i < a + m → ssm f a m ≤ f i + f j := by
  have neg : ∀ {m}, (∀ x, a ≤ x → x < a + m → f x ≤ 0) → ssm f a m ≤ 0 := by
    intro m
    induction m with
    | zero => intro _; exact Int.le_refl _
    | succ m ih => intro h; rw [ssm]; have := ih (fun x h1 h2 => h x h1 (by omega)); have := h (a + m) (by omega) (by omega); omega
  have one : ∀ {m} k, (∀ x, a ≤ x → x < a + m → x ≠ k → f x ≤ 0) → a ≤ k → k < a + m → ssm f a m ≤ f k := by
    intro m
    induction m with
    | zero => intro k _ h1 h2; omega
    | succ m ih =>
      intro k h h1 h2
      rw [ssm]
      by_cases e : k = a + m
      · have := neg (m := m) (fun x h3 h4 => h x h3 (by omega) (by omega))
        rw [e]; omega
      · have := ih k (fun x h3 h4 h5 => h x h3 (by omega) h5) h1 (by omega)
        have := h (a + m) (by omega) (by omega) (fun h => e h.symm)
        omega
  intro m
  induction m with
  | zero => intro _ h1 h2; omega
  | succ m ih =>
    intro h h1 h2 h3 h4 h5
    rw [ssm]
    by_cases e : j = a + m
    · have := one (m := m) i (fun x h6 h7 h8 => h x h6 (by omega) h8) h4 (by omega)
      rw [e]; omega
    · by_cases e' : i = a + m
      · have := one (m := m) j (fun x h6 h7 h8 => h x h6 (by omega) (by omega)) h1 (by omega)
        rw [e']; omega
      · have := ih (fun x h6 h7 h8 => h x h6 (by omega) h8) h1 (by omega) h3 h4 (by omega)
        have := h (a + m) (by omega) (by omega) (fun h => e' h.symm)
        omega
theorem ssm_one {f : Nat → Int} {a i : Nat} : ∀ {m}, (∀ x, a ≤ x → x < a + m → x ≠ i → f x ≤ 0) → a ≤ i → i < a + m → ssm f a m ≤ f i := by
  intro m
  induction m with
  | zero => intro _ h1 h2; omega
  | succ m ih =>
    intro h h1 h2
    rw [ssm]
    by_cases e : i = a + m
    · have neg : ∀ {m}, (∀ x, a ≤ x → x < a + m → f x ≤ 0) → ssm f a m ≤ 0 := by
        intro m
        induction m with
        | zero => intro _; exact Int.le_refl _
        | succ m ih => intro h; rw [ssm]; have := ih (fun x h1 h2 => h x h1 (by omega)); have := h (a + m) (by omega) (by omega); omega
      have := neg (m := m) (fun x h3 h4 => h x h3 (by omega) (by omega))
      rw [e]; omega
    · have := ih (fun x h3 h4 h5 => h x h3 (by omega) h5) h1 (by omega)
      have := h (a + m) (by omega) (by omega) (fun h => e h.symm)
      omega
/-- a grounded row of sums: below 0 beside the middle, the rows' sums not below 0, no part that hangs alone -/
def gnd (M : Nat → Nat → Int) (k n : Nat) : Prop :=
  (∀ i j, k ≤ i → i < n → k ≤ j → j < n → M i j = M j i) ∧ (∀ i j, k ≤ i → i < n → k ≤ j → j < n → i ≠ j → M i j ≤ 0) ∧ (∀ i, k ≤ i → i < n → 0 ≤ ssm (M i) k (n - k)) ∧
  ∀ P : Nat → Prop, (∀ i, P i → k ≤ i ∧ i < n) → (∀ i j, k ≤ i → i < n → k ≤ j → j < n → i ≠ j → M i j ≠ 0 → (P i → P j)) → (∀ i, P i → ssm (M i) k (n - k) = 0) → ∀ i, ¬ P i
section GND
variable {M : Nat → Nat → Int} {k n : Nat}
theorem gnd_dom (h : gnd M k n) {i j : Nat} (hi : k ≤ i) (hi' : i < n) (hj : k ≤ j) (hj' : j < n) (hij : i ≠ j) : 0 ≤ M i i + M i j := by
  have h1 := h.2.2.1 i hi hi'
  have h2 := ssm_dom (f := M i) (a := k) (i := i) (j := j) (m := n - k) (fun x h1 h2 h3 => h.2.1 i x hi hi' h1 (by omega) (fun e => h3 e.symm)) hj (by omega) (fun e => hij e.symm) hi (by omega)
  omega
theorem gnd_pos (h : gnd M k n) {i : Nat} (hi : k ≤ i) (hi' : i < n) : 0 < M i i := by
  have h1 := h.2.2.1 i hi hi'
  have h2 := ssm_one (f := M i) (a := k) (i := i) (m := n - k) (fun x h1 h2 h3 => h.2.1 i x hi hi' h1 (by omega) (fun e => h3 e.symm)) hi (by omega)
  refine Int.lt_iff_le_and_ne.mpr ⟨by omega, fun e => ?_⟩
  have hoff : ∀ j, k ≤ j → j < n → i ≠ j → M i j = 0 := fun j hj hj' hij => by
    have := gnd_dom h hi hi' hj hj' hij
    have := h.2.1 i j hi hi' hj hj' hij
    omega
  refine h.2.2.2 (fun x => x = i) (fun x hx => by rw [hx]; exact ⟨hi, hi'⟩) (fun a b ha ha' hb hb' hab hne hP => ?_) (fun x hx => ?_) i rfl
  · rw [hP] at hne hab
    exact absurd (hoff b hb hb' hab) hne
  · rw [hx]
    have : ssm (M i) k (n - k) = ssm (fun _ => 0) k (n - k) := ssm_cong (fun x h1 h2 => by
      by_cases ex : x = i
      · rw [ex]; exact e.symm
      · exact hoff x h1 (by omega) (fun h => ex h.symm))
    rw [this]
    have : ∀ m, ssm (fun _ => 0) k m = 0 := by
      intro m
      induction m with
      | zero => rfl
      | succ m ih => rw [ssm, ih]; rfl
    exact this _
theorem pos_of_mul {p x : Int} (hp : 0 < p) (h : 0 ≤ p * x) : 0 ≤ x := Int.nonneg_of_mul_nonneg_right h hp
theorem neg_of_mul {p x : Int} (hp : 0 < p) (h : p * x ≤ 0) : x ≤ 0 := by
  have : 0 ≤ p * (-x) := by grind
  have := pos_of_mul hp this
  omega
/-- one step keeps that -/
theorem gnd_step {M' : Nat → Nat → Int} {p : Int} (h : gnd M k n) (hk : k < n) (hp : 0 < p) (hs : ∀ i j, k < i → i < n → k < j → j < n → p * M' i j = M k k * M i j - M i k * M k j) : gnd M' (k + 1) n := by
  have hkk := gnd_pos h (Nat.le_refl k) hk
  have row : ∀ i, k < i → i < n → p * ssm (M' i) (k + 1) (n - (k + 1)) = M k k * ssm (M i) k (n - k) - M i k * ssm (M k) k (n - k) := by
    intro i hi hi'
    have e1 : p * ssm (M' i) (k + 1) (n - (k + 1)) = ssm (fun j => p * M' i j - 0 * M' i j) (k + 1) (n - (k + 1)) := by rw [ssm_lin]; omega
    rw [e1, ssm_cong (g := fun j => M k k * M i j - M i k * M k j) (fun x h1 h2 => by rw [← hs i x hi hi' (by omega) (by omega)]; omega), ssm_lin]
    have e2 := ssm_head (M i) k (n - (k + 1))
    have e3 := ssm_head (M k) k (n - (k + 1))
    rw [show n - (k + 1) + 1 = n - k by omega] at e2 e3
    rw [e2, e3]
    grind
  have off : ∀ i j, k < i → i < n → k < j → j < n → i ≠ j → M' i j ≤ 0 ∧ (M i j ≠ 0 → M' i j ≠ 0) ∧ (M i k ≠ 0 → M j k ≠ 0 → M' i j ≠ 0) := by
    intro i j hi hi' hj hj' hij
    have e := hs i j hi hi' hj hj'
    have a1 := h.2.1 i j (by omega) hi' (by omega) hj' hij
    have a2 := h.2.1 i k (by omega) hi' (Nat.le_refl k) hk (by omega)
    have a3 := h.2.1 k j (Nat.le_refl k) hk (by omega) hj' (by omega)
    have a4 := h.1 k j (Nat.le_refl k) hk (by omega) hj'
    have b1 : M k k * M i j ≤ 0 := Int.mul_nonpos_of_nonneg_of_nonpos (by omega) a1
    have b2 : 0 ≤ M i k * M k j := Int.mul_nonneg_of_nonpos_of_nonpos a2 a3
    refine ⟨neg_of_mul hp (by omega), fun hne he => ?_, fun h1 h2 he => ?_⟩
    · rw [he] at e
      have : M k k * M i j = 0 := by omega
      rcases Int.mul_eq_zero.mp this with g | g
      · omega
      · exact hne g
    · rw [he] at e
      have : M i k * M k j = 0 := by omega
      rcases Int.mul_eq_zero.mp this with g | g
      · exact h1 g
      · rw [a4] at g; exact h2 g
  refine ⟨fun i j hi hi' hj hj' => ?_, fun i j hi hi' hj hj' hij => (off i j hi hi' hj hj' hij).1, fun i hi hi' => ?_, fun P hP hcl h0 => ?_⟩
  · have e1 := hs i j hi hi' hj hj'
    have e2 := hs j i hj hj' hi hi'
    rw [h.1 i j (by omega) hi' (by omega) hj', h.1 i k (by omega) hi' (Nat.le_refl k) hk, h.1 k j (Nat.le_refl k) hk (by omega) hj'] at e1
    have : p * M' i j = p * M' j i := by rw [e1, e2]; grind
    exact Int.eq_of_mul_eq_mul_left (by omega) this
  · have e := row i hi hi'
    have a2 := h.2.1 i k (by omega) hi' (Nat.le_refl k) hk (by omega)
    have r1 := h.2.2.1 i (by omega) hi'
    have r2 := h.2.2.1 k (Nat.le_refl k) hk
    have b1 : 0 ≤ M k k * ssm (M i) k (n - k) := Int.mul_nonneg (by omega) r1
    have b2 : M i k * ssm (M k) k (n - k) ≤ 0 := Int.mul_nonpos_of_nonpos_of_nonneg a2 r2
    exact pos_of_mul hp (by omega)
  · have zero : ∀ i, P i → ssm (M i) k (n - k) = 0 ∧ (M i k ≠ 0 → ssm (M k) k (n - k) = 0) := by
      intro i hi
      obtain ⟨h1, h2⟩ := hP i hi
      have e := row i (by omega) h2
      rw [h0 i hi] at e
      have a2 := h.2.1 i k (by omega) h2 (Nat.le_refl k) hk (by omega)
      have r1 := h.2.2.1 i (by omega) h2
      have r2 := h.2.2.1 k (Nat.le_refl k) hk
      have b1 : 0 ≤ M k k * ssm (M i) k (n - k) := Int.mul_nonneg (by omega) r1
      have b2 : M i k * ssm (M k) k (n - k) ≤ 0 := Int.mul_nonpos_of_nonpos_of_nonneg a2 r2
      have c1 : M k k * ssm (M i) k (n - k) = 0 := by omega
      have c2 : M i k * ssm (M k) k (n - k) = 0 := by omega
      refine ⟨?_, fun hne => ?_⟩
      · rcases Int.mul_eq_zero.mp c1 with g | g
        · omega
        · exact g
      · rcases Int.mul_eq_zero.mp c2 with g | g
        · exact absurd g hne
        · exact g
    intro i hi
    refine h.2.2.2 (fun x => P x ∨ (x = k ∧ ∃ y, P y ∧ M y k ≠ 0)) (fun x hx => ?_) (fun a b ha ha' hb hb' hab hne hx => ?_) (fun x hx => ?_) i (Or.inl hi)
    · rcases hx with hx | ⟨hx, -⟩
      · have := hP x hx; omega
      · omega
    · rcases hx with hx | ⟨hx, y, hy, hyk⟩
      · by_cases eb : b = k
        · rw [eb] at hne; exact Or.inr ⟨eb, a, hx, hne⟩
        · have := hP a hx
          exact Or.inl (hcl a b (by omega) ha' (by omega) hb' hab ((off a b (by omega) ha' (by omega) hb' hab).2.1 hne) hx)
      · have eb : b ≠ k := fun e => hab (hx.trans e.symm)
        rw [hx] at hne
        have hbk : M b k ≠ 0 := by rw [h.1 b k hb hb' (Nat.le_refl k) hk]; exact hne
        by_cases ey : y = b
        · rw [← ey]; exact Or.inl hy
        · have := hP y hy
          exact Or.inl (hcl y b (by omega) this.2 (by omega) hb' ey ((off y b (by omega) this.2 (by omega) hb' ey).2.2 hyk hbk) hy)
    · rcases hx with hx | ⟨hx, y, hy, hyk⟩
      · exact (zero x hx).1
      · rw [hx]; exact (zero y hy).2 hyk
end GND
/-- the products of some of the middle -/
def prI (f : Nat → Int) : Nat → Int
  | 0 => 1
  | k + 1 => prI f k * f k
/-- all that the steps need: none of the middle is 0, and nothing is large -/
theorem lap_ok {A : Nat → Nat → Int} {n : Nat} (h : gnd A 0 n) : ∀ k, k ≤ n → (∀ t, t ≤ k → 0 < pv A t) ∧ gnd (DD A k) k n ∧ (∀ i, k ≤ i → i < n → DD A k i i ≤ pv A k * A i i) ∧ pv A k ≤ prI (fun i => A i i) k := by
  intro k
  induction k with
  | zero =>
    intro _
    have e : DD A 0 = A := by funext i j; exact DD_0 i j
    refine ⟨fun t ht => by rw [show t = 0 by omega, pv_0]; decide, by rw [e]; exact h, fun i _ hi => by rw [DD_0, pv_0]; omega, by rw [pv_0]; exact Int.le_refl _⟩
  | succ k ih =>
    intro hk
    obtain ⟨h1, h2, h3, h4⟩ := ih (by omega)
    have hpk := h1 k (Nat.le_refl k)
    have hpos : 0 < pv A (k + 1) := by rw [← DD_pv]; exact gnd_pos h2 (Nat.le_refl k) (by omega)
    have hall : ∀ t, t ≤ k + 1 → 0 < pv A t := fun t ht => by
      by_cases e : t = k + 1
      · rw [e]; exact hpos
      · exact h1 t (by omega)
    have step := fun i j => DD_step (A := A) (k := k) (fun t ht => by have := hall t ht; omega) i j
    have g' : gnd (DD A (k + 1)) (k + 1) n := gnd_step h2 (by omega) hpk (fun i j _ _ _ _ => by rw [step, DD_pv])
    have hkk : pv A (k + 1) ≤ pv A k * A k k := by rw [← DD_pv]; exact h3 k (Nat.le_refl k) (by omega)
    have hAk : 0 ≤ A k k := Int.le_of_lt (gnd_pos h (Nat.zero_le k) (by omega))
    refine ⟨hall, g', fun i hi hi' => ?_, ?_⟩
    · have e := step i i
      have b := h3 i (by omega) hi'
      have sq : DD A k i k * DD A k k i = DD A k i k * DD A k i k := by rw [h2.1 k i (Nat.le_refl k) (by omega) (by omega) hi']
      have sq0 : 0 ≤ DD A k i k * DD A k i k := by
        rcases Int.le_total 0 (DD A k i k) with g | g
        · exact Int.mul_nonneg g g
        · exact Int.mul_nonneg_of_nonpos_of_nonpos g g
      have c1 : pv A (k + 1) * DD A k i i ≤ pv A (k + 1) * (pv A k * A i i) := Int.mul_le_mul_of_nonneg_left b (by omega)
      have c2 : pv A k * DD A (k + 1) i i ≤ pv A k * (pv A (k + 1) * A i i) := by
        rw [e, sq]
        have : pv A (k + 1) * (pv A k * A i i) = pv A k * (pv A (k + 1) * A i i) := by grind
        omega
      exact Int.le_of_mul_le_mul_left c2 hpk
    · rw [prI]
      exact Int.le_trans hkk (Int.mul_le_mul_of_nonneg_right h4 hAk)
