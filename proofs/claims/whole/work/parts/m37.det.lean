/-! LIKE NETS: determinants without fractions -/
def lp (a : Nat → Int) : (List Nat → Int) → List Nat → Int
  | _, [] => 0
  | φ, r :: rs => a r * φ rs - lp a (fun t => φ (r :: t)) rs
theorem lp_lin (a : Nat → Int) (c : Int) : ∀ (rs : List Nat) (φ χ : List Nat → Int), lp a (fun t => c * φ t + χ t) rs = c * lp a φ rs + lp a χ rs := by
  intro rs
  induction rs with
  | nil => intro φ χ; simp [lp]
  | cons r rs ih =>
    intro φ χ
    rw [lp, lp, lp, ih]
    grind
theorem lp_zero (a : Nat → Int) : ∀ (rs : List Nat), lp a (fun _ => 0) rs = 0 := by
  intro rs
  induction rs with
  | nil => rfl
  | cons r rs ih => rw [lp, ih]; simp
theorem lp_smul (a : Nat → Int) (c : Int) (rs : List Nat) (φ : List Nat → Int) : lp a (fun t => c * φ t) rs = c * lp a φ rs := by
  have := lp_lin a c rs φ (fun _ => 0)
  simp only [Int.add_zero] at this
  rw [this, lp_zero, Int.add_zero]
theorem lp_anti (a b : Nat → Int) : ∀ (rs : List Nat) (ψ : List Nat → Int), lp a (lp b ψ) rs = - lp b (lp a ψ) rs := by
  intro rs
  induction rs with
  | nil => intro ψ; simp [lp]
  | cons r rs ih =>
    intro ψ
    have e1 : ∀ (a b : Nat → Int), lp a (fun t => lp b ψ (r :: t)) rs = b r * lp a ψ rs - lp a (lp b (fun t => ψ (r :: t))) rs := by
      intro a b
      have : (fun t => lp b ψ (r :: t)) = fun t => b r * ψ t + (-1) * lp b (fun t => ψ (r :: t)) t := by
        funext t; rw [lp]; omega
      rw [this, lp_lin, lp_smul]; omega
    rw [lp, lp, e1, e1, ih]
    grind
theorem lp_self (a : Nat → Int) (rs : List Nat) (ψ : List Nat → Int) : lp a (lp a ψ) rs = 0 := by
  have := lp_anti a a rs ψ
  omega
theorem lp_snoc (a : Nat → Int) (r : Nat) : ∀ (rs : List Nat) (φ : List Nat → Int), lp a φ (rs ++ [r]) = lp a (fun t => φ (t ++ [r])) rs + (-1) ^ rs.length * (a r * φ rs) := by
  intro rs
  induction rs with
  | nil => intro φ; simp [lp]
  | cons x rs ih =>
    intro φ
    rw [List.cons_append, lp, lp, ih, List.length_cons, Int.pow_succ]
    grind
def dt (A : Nat → Nat → Int) : Nat → List Nat → Int
  | 0, _ => 1
  | k + 1, rs => (-1) ^ k * lp (fun r => A r k) (dt A k) rs
theorem dt_van (A : Nat → Nat → Int) {j : Nat} : ∀ {k : Nat}, j < k → ∀ rs, lp (fun r => A r j) (dt A k) rs = 0 := by
  intro k
  induction k with
  | zero => intro h; omega
  | succ k ih =>
    intro h rs
    have e : dt A (k + 1) = fun rs => (-1) ^ k * lp (fun r => A r k) (dt A k) rs := by funext rs; rfl
    rw [e, lp_smul]
    by_cases ej : j = k
    · subst ej; rw [lp_self]; simp
    · rw [lp_anti]
      have : lp (fun r => A r j) (dt A k) = fun _ => 0 := funext fun rs => ih (by omega) rs
      rw [this, lp_zero]; simp
def DD (A : Nat → Nat → Int) (k i j : Nat) : Int := (-1) ^ k * lp (fun r => A r j) (dt A k) (List.range k ++ [i])
def pv (A : Nat → Nat → Int) (k : Nat) : Int := dt A k (List.range k)
section DET
variable {A : Nat → Nat → Int}
theorem DD_0 (i j : Nat) : DD A 0 i j = A i j := by simp [DD, lp, dt]
theorem pv_0 : pv A 0 = 1 := rfl
theorem DD_pv (k : Nat) : DD A k k k = pv A (k + 1) := by unfold DD pv; rw [List.range_succ]; rfl
theorem DD_van {k i j : Nat} (h : j < k) : DD A k i j = 0 := by unfold DD; rw [dt_van A h]; simp
def smI (f : Nat → Int) : Nat → Int
  | 0 => 0
  | k + 1 => smI f k + f k
theorem smI_add (f g : Nat → Int) : ∀ n, smI (fun x => f x + g x) n = smI f n + smI g n := by
  intro n
  induction n with
  | zero => rfl
  | succ n ih => rw [smI, smI, smI, ih]; omega
theorem smI_mul (c : Int) (f : Nat → Int) : ∀ n, smI (fun x => c * f x) n = c * smI f n := by
  intro n
  induction n with
  | zero => simp [smI]
  | succ n ih => rw [smI, smI, ih, Int.mul_add]
theorem smI_cong {f g : Nat → Int} : ∀ {n}, (∀ k, k < n → f k = g k) → smI f n = smI g n := by
  intro n
  induction n with
  | zero => intro _; rfl
  | succ n ih => intro h; rw [smI, smI, ih (fun k hk => h k (by omega)), h n (by omega)]
theorem smI_zero : ∀ n, smI (fun _ => 0) n = 0 := by
  intro n
  induction n with
  | zero => rfl
  | succ n ih => rw [smI, ih]; rfl
theorem smI_single (l : Nat) (v : Int) : ∀ {n}, l < n → smI (fun x => if x = l then v else 0) n = v := by
  intro n
  induction n with
  | zero => intro h; omega
  | succ n ih =>
    intro h
    rw [smI]
    by_cases e : l = n
    · subst e
      rw [if_pos rfl, smI_cong (g := fun _ => 0) (fun k hk => if_neg (by omega)), smI_zero]; omega
    · rw [ih (by omega), if_neg (fun h => e h.symm)]; omega
/-- made of the first rows -/
def spn2 (A : Nat → Nat → Int) (m : Nat) (F : Nat → Int) : Prop := ∃ c : Nat → Int, ∀ j, F j = smI (fun l => c l * A l j) m
theorem sp_add {m : Nat} {F G : Nat → Int} (h : spn2 A m F) (g : spn2 A m G) : spn2 A m (fun j => F j + G j) := by
  obtain ⟨c, hc⟩ := h
  obtain ⟨e, he⟩ := g
  refine ⟨fun l => c l + e l, fun j => ?_⟩
  show F j + G j = smI (fun l => (c l + e l) * A l j) m
  rw [hc, he, ← smI_add]
  exact smI_cong (fun k _ => by rw [Int.add_mul])
theorem sp_mul {m : Nat} {F : Nat → Int} (c : Int) (h : spn2 A m F) : spn2 A m (fun j => c * F j) := by
  obtain ⟨e, he⟩ := h
  refine ⟨fun l => c * e l, fun j => ?_⟩
  show c * F j = smI (fun l => (c * e l) * A l j) m
  rw [he, ← smI_mul]
  exact smI_cong (fun k _ => by rw [Int.mul_assoc])
theorem sp_row {m l : Nat} (h : l < m) : spn2 A m (fun j => A l j) := by
  refine ⟨fun x => if x = l then 1 else 0, fun j => ?_⟩
  rw [smI_cong (g := fun x => if x = l then A l j else 0) (fun k _ => by
    show (if k = l then 1 else 0) * A k j = if k = l then A l j else 0
    by_cases e : k = l
    · rw [if_pos e, if_pos e, e]; omega
    · rw [if_neg e, if_neg e]; omega), smI_single l _ h]
theorem sp_zero {m : Nat} : spn2 A m (fun _ => 0) := ⟨fun _ => 0, fun j => by
  rw [smI_cong (g := fun _ => 0) (fun k _ => by show (0 : Int) * _ = 0; omega), smI_zero]⟩
theorem sp_congr {m : Nat} {F G : Nat → Int} (h : spn2 A m F) (e : ∀ j, G j = F j) : spn2 A m G := by
  obtain ⟨c, hc⟩ := h
  exact ⟨c, fun j => by rw [e, hc]⟩
theorem sp_up {m : Nat} {F : Nat → Int} (h : spn2 A m F) : spn2 A (m + 1) F := by
  obtain ⟨c, hc⟩ := h
  refine ⟨fun l => if l = m then 0 else c l, fun j => ?_⟩
  show F j = smI (fun l => (if l = m then 0 else c l) * A l j) (m + 1)
  rw [hc, smI, if_pos rfl, smI_cong (f := fun l => c l * A l j) (g := fun l => (if l = m then 0 else c l) * A l j) (fun k hk => by show _ = (if k = m then 0 else c k) * A k j; rw [if_neg (by omega)])]
  omega
theorem sp_lp {m : Nat} : ∀ (rs : List Nat) (φ : List Nat → Int), (∀ r ∈ rs, r < m) → spn2 A m (fun j => lp (fun r => A r j) φ rs) := by
  intro rs
  induction rs with
  | nil => intro φ _; exact sp_zero
  | cons r rs ih =>
    intro φ h
    have h1 := sp_mul (A := A) (φ rs) (sp_row (A := A) (h r List.mem_cons_self))
    have h2 := sp_mul (A := A) (-1) (ih (fun t => φ (r :: t)) (fun x hx => h x (List.mem_cons_of_mem _ hx)))
    refine sp_congr (sp_add h1 h2) (fun j => ?_)
    rw [lp]; grind
theorem neg1_sq (k : Nat) : ((-1 : Int) ^ k) * ((-1) ^ k) = 1 := by
  induction k with
  | zero => rfl
  | succ k ih => rw [Int.pow_succ]; grind
theorem DD_lin (k i : Nat) : ∃ G : Nat → Int, spn2 A k G ∧ ∀ j, DD A k i j = pv A k * A i j + G j := by
  refine ⟨fun j => (-1) ^ k * lp (fun r => A r j) (fun t => dt A k (t ++ [i])) (List.range k), sp_mul _ (sp_lp _ _ (fun r hr => List.mem_range.mp hr)), fun j => ?_⟩
  unfold DD pv
  rw [lp_snoc, List.length_range, Int.mul_add]
  have := neg1_sq k
  grind
theorem sp_van : ∀ m (F : Nat → Int), spn2 A m F → (∀ j, j < m → F j = 0) → (∀ t, t ≤ m → pv A t ≠ 0) → ∀ j, F j = 0 := by
  intro m
  induction m with
  | zero =>
    intro F h _ _ j
    obtain ⟨c, hc⟩ := h
    rw [hc]; rfl
  | succ m ih =>
    intro F h h0 hp j
    obtain ⟨c, hc⟩ := h
    obtain ⟨G, hG, hD⟩ := DD_lin (A := A) m m
    have hH : spn2 A m (fun j => pv A m * F j + (- c m) * DD A m m j) := by
      have s1 : spn2 A m (fun j => smI (fun l => c l * A l j) m) := ⟨c, fun j => rfl⟩
      refine sp_congr (sp_add (sp_mul (pv A m) s1) (sp_mul (- c m) hG)) (fun j => ?_)
      rw [hc, smI, hD]
      grind
    have hz := ih _ hH (fun j hj => by
      show pv A m * F j + (- c m) * DD A m m j = 0
      rw [h0 j (by omega), DD_van hj]; simp) (fun t ht => hp t (by omega))
    have hm := hz m
    have hm : pv A m * F m + (- c m) * DD A m m m = 0 := hm
    rw [h0 m (by omega), DD_pv] at hm
    have hcm : c m = 0 := by
      have h9 : c m * pv A (m + 1) = 0 := by grind
      rcases Int.mul_eq_zero.mp h9 with h | h
      · exact h
      · exact absurd h (hp (m + 1) (Nat.le_refl _))
    have hj : pv A m * F j + (- c m) * DD A m m j = 0 := hz j
    rw [hcm] at hj
    have h9 : pv A m * F j = 0 := by grind
    rcases Int.mul_eq_zero.mp h9 with h | h
    · exact absurd h (hp m (by omega))
    · exact h
/-- one step without fractions is exact -/
theorem DD_step {k : Nat} (hp : ∀ t, t ≤ k + 1 → pv A t ≠ 0) (i j : Nat) : pv A k * DD A (k + 1) i j = pv A (k + 1) * DD A k i j - DD A k i k * DD A k k j := by
  obtain ⟨G1, g1, d1⟩ := DD_lin (A := A) (k + 1) i
  obtain ⟨G2, g2, d2⟩ := DD_lin (A := A) k i
  obtain ⟨G3, g3, d3⟩ := DD_lin (A := A) k k
  have hW : spn2 A (k + 1) (fun j => pv A k * DD A (k + 1) i j + ((- pv A (k + 1)) * DD A k i j + DD A k i k * DD A k k j)) := by
    have s3 : spn2 A (k + 1) (fun j => DD A k k j) := sp_congr (sp_add (sp_mul (pv A k) (sp_row (A := A) (show k < k + 1 by omega))) (sp_up g3)) d3
    refine sp_congr (sp_add (sp_mul (pv A k) g1) (sp_add (sp_mul (- pv A (k + 1)) (sp_up g2)) (sp_mul (DD A k i k) s3))) (fun j => ?_)
    rw [d1, d2 j]
    grind
  have := sp_van (k + 1) _ hW (fun j hj => by
    show pv A k * DD A (k + 1) i j + ((- pv A (k + 1)) * DD A k i j + DD A k i k * DD A k k j) = 0
    rw [DD_van hj]
    by_cases e : j = k
    · subst e; rw [DD_pv]; grind
    · rw [DD_van (show j < k by omega), DD_van (show j < k by omega)]; simp) hp j
  have this : pv A k * DD A (k + 1) i j + ((- pv A (k + 1)) * DD A k i j + DD A k i k * DD A k k j) = 0 := this
  grind
end DET
