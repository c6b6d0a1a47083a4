/-! LIKE NETS: the sums that the cables of a price make -/
theorem cube3 : ∀ x : Nat, x * (x * x) ≤ 3 ^ x := by
  have key : ∀ m : Nat, (m + 3) * ((m + 3) * (m + 3)) ≤ 3 ^ (m + 3) := by
    intro m
    induction m with
    | zero => decide
    | succ m ih =>
      have e : (m + 1 + 3) * ((m + 1 + 3) * (m + 1 + 3)) ≤ 3 * ((m + 3) * ((m + 3) * (m + 3))) := by
        have h1 : (m + 3) * (m + 3) = m * m + 6 * m + 9 := by grind
        have h2 : (m + 1 + 3) * (m + 1 + 3) = m * m + 8 * m + 16 := by grind
        have h3 : (m + 3) * (m * m + 6 * m + 9) = m * (m * m) + 9 * (m * m) + 27 * m + 27 := by grind
        have h4 : (m + 1 + 3) * (m * m + 8 * m + 16) = m * (m * m) + 12 * (m * m) + 48 * m + 64 := by grind
        rw [h1, h2, h3, h4]; omega
      have e2 : 3 ^ (m + 1 + 3) = 3 * 3 ^ (m + 3) := by rw [show m + 1 + 3 = (m + 3) + 1 by omega, Nat.pow_succ]; omega
      rw [e2]; omega
  intro x
  rcases (by omega : x = 0 ∨ x = 1 ∨ x = 2 ∨ 3 ≤ x) with e | e | e | e
  · subst e; decide
  · subst e; decide
  · subst e; decide
  · have := key (x - 3)
    rwa [show x - 3 + 3 = x by omega] at this
def prN (f : Nat → Nat) : Nat → Nat
  | 0 => 1
  | k + 1 => prN f k * f k
theorem prN_cube (f : Nat → Nat) : ∀ k, prN f k * (prN f k * prN f k) ≤ 3 ^ smf f k := by
  intro k
  induction k with
  | zero => show 1 * (1 * 1) ≤ 3 ^ 0; decide
  | succ k ih =>
    rw [prN, smf, Nat.pow_add]
    have e : prN f k * f k * (prN f k * f k * (prN f k * f k)) = prN f k * (prN f k * prN f k) * (f k * (f k * f k)) := by grind
    rw [e]
    exact Nat.mul_le_mul ih (cube3 (f k))
theorem smf_part {f : Nat → Nat} {i : Nat} : ∀ {k n}, k ≤ i → i < n → smf f k + f i ≤ smf f n := by
  intro k n
  induction n with
  | zero => intro _ h; omega
  | succ n ih =>
    intro h1 h2
    rw [smf]
    by_cases e : i = n
    · subst e
      have : ∀ {a b}, a ≤ b → smf f a ≤ smf f b := by
        intro a b
        induction b with
        | zero => intro h; rw [show a = 0 by omega]; exact Nat.le_refl _
        | succ b ih =>
          intro h
          by_cases e : a = b + 1
          · rw [e]; exact Nat.le_refl _
          · rw [smf]; have := ih (by omega); omega
      have := this h1
      omega
    · have := ih h1 (by omega); omega
theorem pr_bound {f : Nat → Nat} {n k i : Nat} (hs : smf f n ≤ 48) (hk : k ≤ i) (hi : i < n) : prN f k * f i ≤ 43046721 := by
  have h1 := prN_cube f k
  have h2 := cube3 (f i)
  have h3 := smf_part (f := f) hk hi
  have h4 : prN f k * f i * (prN f k * f i * (prN f k * f i)) ≤ 3 ^ 48 := by
    have e : prN f k * f i * (prN f k * f i * (prN f k * f i)) = prN f k * (prN f k * prN f k) * (f i * (f i * f i)) := by grind
    rw [e]
    refine Nat.le_trans (Nat.mul_le_mul h1 h2) ?_
    rw [← Nat.pow_add]
    exact Nat.pow_le_pow_right (by decide) (by omega)
  refine Nat.le_of_not_lt fun g => ?_
  have : 43046722 * (43046722 * 43046722) ≤ prN f k * f i * (prN f k * f i * (prN f k * f i)) := Nat.mul_le_mul g (Nat.mul_le_mul g g)
  have e9 : (3 : Nat) ^ 48 < 43046722 * (43046722 * 43046722) := by decide
  omega
theorem prI_nat (f : Nat → Nat) : ∀ k, prI (fun i => (f i : Int)) k = (prN f k : Int) := by
  intro k
  induction k with
  | zero => rfl
  | succ k ih => rw [prI, prN, ih]; exact (Int.natCast_mul _ _).symm
/-- nothing is large -/
theorem DD_bound {A : Nat → Nat → Int} {n : Nat} (h : gnd A 0 n) {f : Nat → Nat} (hf : ∀ i, i < n → A i i = (f i : Int)) (hs : smf f n ≤ 48) {k i j : Nat} (hk : k ≤ i) (hi : i < n) (hj : k ≤ j) (hj' : j < n) : -43046721 ≤ DD A k i j ∧ DD A k i j ≤ 43046721 := by
  obtain ⟨h1, h2, h3, h4⟩ := lap_ok h k (by omega)
  have e1 : prI (fun i => A i i) k = prI (fun i => (f i : Int)) k := by
    have : ∀ k, k ≤ n → prI (fun i => A i i) k = prI (fun i => (f i : Int)) k := by
      intro k
      induction k with
      | zero => intro _; rfl
      | succ k ih => intro hk; rw [prI, prI, ih (by omega), hf k (by omega)]
    exact this k (by omega)
  have hd : ∀ i, k ≤ i → i < n → DD A k i i ≤ 43046721 := fun i hk hi => by
    have a1 := h3 i hk hi
    have a2 : pv A k * A i i ≤ (prN f k : Int) * (f i : Int) := by
      rw [hf i hi]
      refine Int.mul_le_mul_of_nonneg_right ?_ (by omega)
      rw [e1, prI_nat] at h4; exact h4
    have a3 := pr_bound hs hk hi
    have a4 : (prN f k : Int) * (f i : Int) ≤ 43046721 := by
      rw [← Int.natCast_mul]; omega
    omega
  by_cases e : i = j
  · subst e
    have := gnd_pos h2 hk hi
    have := hd i hk hi
    omega
  · have := gnd_dom h2 hk hi hj hj' e
    have := h2.2.1 i j hk hi hj hj' e
    have := hd i hk hi
    omega
theorem pv_bound {A : Nat → Nat → Int} {n : Nat} (h : gnd A 0 n) {f : Nat → Nat} (hf : ∀ i, i < n → A i i = (f i : Int)) (hs : smf f n ≤ 48) {k : Nat} (hk : k ≤ n) : 0 < pv A k ∧ pv A k ≤ 43046721 := by
  refine ⟨(lap_ok h k hk).1 k (Nat.le_refl k), ?_⟩
  cases k with
  | zero => rw [pv_0]; decide
  | succ k => rw [← DD_pv]; exact (DD_bound h hf hs (Nat.le_refl k) (by omega) (Nat.le_refl k) (by omega)).2
/-! the sums -/
def ctr (u v s t : Nat) : Int := if u = v then 0 else if s = t then (if s = u then 1 else 0) + (if s = v then 1 else 0) else -((if s = u ∧ t = v then 1 else 0) + (if s = v ∧ t = u then 1 else 0))
def lapS (pb e1 e2 : Nat → Nat) (N : Nat) (lk : Nat → Bool) (s t : Nat) : Int := smI (fun k => if lk k = true then ctr (pb (e1 k)) (pb (e2 k)) s t else 0) N
theorem ssm_list (f : Nat → Int) (rs : List Nat) : ssm (fun j => f (rs.getD j 0)) 0 rs.length = (rs.map f).sum := by
  induction rs using sn_ind with
  | nil => rfl
  | append_singleton l c ih =>
    rw [List.length_append, List.length_singleton, ssm, Nat.zero_add, getD_snoc_r, List.map_append, List.sum_append, ← ih]
    rw [ssm_cong (g := fun j => f (l.getD j 0)) (fun x _ hx => by rw [getD_snoc_l (by omega)])]
    simp
theorem sum_swap (g : Nat → Nat → Int) (N : Nat) : ∀ rs : List Nat, (rs.map (fun t => smI (fun k => g k t) N)).sum = smI (fun k => (rs.map (g k)).sum) N := by
  intro rs
  induction rs with
  | nil => simp; rw [smI_zero]
  | cons r rs ih =>
    rw [List.map_cons, List.sum_cons, ih, ← smI_add]
    exact smI_cong (fun k _ => by rw [List.map_cons, List.sum_cons])
theorem sum_one (a : Nat) : ∀ rs : List Nat, rs.Nodup → (rs.map (fun t => if t = a then (1 : Int) else 0)).sum = if a ∈ rs then 1 else 0 := by
  intro rs
  induction rs with
  | nil => intro _; rfl
  | cons r rs ih =>
    intro h
    obtain ⟨h1, h2⟩ := List.nodup_cons.mp h
    rw [List.map_cons, List.sum_cons, ih h2]
    by_cases e : r = a
    · subst e
      rw [if_pos rfl, if_neg h1, if_pos List.mem_cons_self]; rfl
    · rw [if_neg e]
      by_cases e' : a ∈ rs
      · rw [if_pos e', if_pos (List.mem_cons_of_mem _ e')]; omega
      · rw [if_neg e', if_neg (fun g => by
          rcases List.mem_cons.mp g with g | g
          · exact e g.symm
          · exact e' g)]; omega
theorem sum_ctr {u v s : Nat} {rs : List Nat} (hn : rs.Nodup) (hs : s ∈ rs) : (rs.map (ctr u v s)).sum = if u = v then 0 else (if s = u then 1 - (if v ∈ rs then 1 else 0) else 0) + (if s = v then 1 - (if u ∈ rs then 1 else 0) else 0) := by
  by_cases e : u = v
  · rw [if_pos e]
    have : rs.map (ctr u v s) = rs.map (fun _ => 0) := List.map_congr_left (fun t _ => by unfold ctr; rw [if_pos e])
    rw [this]
    have : ∀ l : List Nat, (l.map (fun _ => (0 : Int))).sum = 0 := by
      intro l
      induction l with
      | nil => rfl
      | cons c l ih => rw [List.map_cons, List.sum_cons, ih]; rfl
    exact this rs
  · rw [if_neg e]
    have two : ∀ (a b : Nat), a ≠ b → ∀ l : List Nat, (l.map (fun t => if t = a then (1 : Int) else -(if t = b then 1 else 0))).sum = (l.map (fun t => if t = a then (1 : Int) else 0)).sum - (l.map (fun t => if t = b then (1 : Int) else 0)).sum := by
      intro a b hab l
      induction l with
      | nil => rfl
      | cons c l ih =>
        rw [List.map_cons, List.sum_cons, ih, List.map_cons, List.sum_cons, List.map_cons, List.sum_cons]
        by_cases e1 : c = a
        · rw [if_pos e1, if_pos e1, if_neg (fun h => hab (e1.symm.trans h))]; omega
        · rw [if_neg e1, if_neg e1]; omega
    by_cases e1 : s = u
    · have hsv : ¬ s = v := fun h => e (e1.symm.trans h)
      rw [if_pos e1, if_neg hsv]
      have : rs.map (ctr u v s) = rs.map (fun t => if t = s then (1 : Int) else -(if t = v then 1 else 0)) := List.map_congr_left (fun t _ => by
        unfold ctr
        rw [if_neg e]
        by_cases g : s = t
        · rw [if_pos g, if_pos e1, if_neg hsv, if_pos g.symm]; rfl
        · rw [if_neg g, if_neg (fun h : t = s => g h.symm), if_neg (fun h : s = v ∧ t = u => hsv h.1)]
          by_cases g2 : t = v
          · rw [if_pos (show s = u ∧ t = v from ⟨e1, g2⟩), if_pos g2]; rfl
          · rw [if_neg (fun h : s = u ∧ t = v => g2 h.2), if_neg g2]; rfl)
      rw [this, two s v hsv, sum_one _ _ hn, sum_one _ _ hn, if_pos hs]; omega
    · rw [if_neg e1]
      by_cases e2 : s = v
      · rw [if_pos e2]
        have : rs.map (ctr u v s) = rs.map (fun t => if t = s then (1 : Int) else -(if t = u then 1 else 0)) := List.map_congr_left (fun t _ => by
          unfold ctr
          rw [if_neg e]
          by_cases g : s = t
          · rw [if_pos g, if_neg e1, if_pos e2, if_pos g.symm]; rfl
          · rw [if_neg g, if_neg (fun h : t = s => g h.symm), if_neg (fun h : s = u ∧ t = v => e1 h.1)]
            by_cases g2 : t = u
            · rw [if_pos (show s = v ∧ t = u from ⟨e2, g2⟩), if_pos g2]; rfl
            · rw [if_neg (fun h : s = v ∧ t = u => g2 h.2), if_neg g2]; rfl)
        rw [this, two s u e1, sum_one _ _ hn, sum_one _ _ hn, if_pos hs]; omega
      · rw [if_neg e2]
        have : rs.map (ctr u v s) = rs.map (fun t => if t = s then (0 : Int) else 0) := List.map_congr_left (fun t _ => by
          unfold ctr
          rw [if_neg e]
          by_cases g : s = t
          · rw [if_pos g, if_neg e1, if_neg e2]; simp
          · rw [if_neg g, if_neg (fun h : s = u ∧ t = v => e1 h.1), if_neg (fun h : s = v ∧ t = u => e2 h.1)]; simp)
        rw [this]
        have : ∀ l : List Nat, (l.map (fun t => if t = s then (0 : Int) else 0)).sum = 0 := by
          intro l
          induction l with
          | nil => rfl
          | cons c l ih => rw [List.map_cons, List.sum_cons, ih]; split <;> rfl
        rw [this]; rfl
theorem smI_nn {f : Nat → Int} : ∀ {n}, (∀ k, k < n → 0 ≤ f k) → 0 ≤ smI f n := by
  intro n
  induction n with
  | zero => intro _; exact Int.le_refl _
  | succ n ih => intro h; rw [smI]; have := ih (fun k hk => h k (by omega)); have := h n (by omega); omega
theorem smI_nn0 {f : Nat → Int} : ∀ {n}, (∀ k, k < n → 0 ≤ f k) → smI f n = 0 → ∀ k, k < n → f k = 0 := by
  intro n
  induction n with
  | zero => intro _ _ k hk; omega
  | succ n ih =>
    intro h h0 k hk
    rw [smI] at h0
    have a := smI_nn (fun k hk => h k (show k < n + 1 by omega)) (n := n)
    have b := h n (by omega)
    by_cases e : k = n
    · subst e; omega
    · exact ih (fun k hk => h k (by omega)) (by omega) k (by omega)
theorem smI_np {f : Nat → Int} {k0 : Nat} : ∀ {n}, (∀ k, k < n → f k ≤ 0) → k0 < n → smI f n ≤ f k0 := by
  have all : ∀ {n}, (∀ k, k < n → f k ≤ 0) → smI f n ≤ 0 := by
    intro n
    induction n with
    | zero => intro _; exact Int.le_refl _
    | succ n ih => intro h; rw [smI]; have := ih (fun k hk => h k (by omega)); have := h n (by omega); omega
  intro n
  induction n with
  | zero => intro _ h; omega
  | succ n ih =>
    intro h hk
    rw [smI]
    by_cases e : k0 = n
    · subst e; have := all (fun k hk => h k (show k < k0 + 1 by omega)) (n := k0); omega
    · have := ih (fun k hk => h k (by omega)) (by omega); have := h n (by omega); omega
/-- the sums of a price are grounded -/
theorem lap_gnd {e1 e2 pa pb : Nat → Nat} {S N : Nat} {ls lk : Nat → Bool} {rs : List Nat} (hb : kp e1 e2 S pb (fun k => k < N ∧ ls k = true)) (ha : kp e1 e2 S pa (fun k => k < N ∧ (ls k || lk k) = true)) (hw : ∀ k, k < N → e1 k < S ∧ e2 k < S) (hn : rs.Nodup) (hr : ∀ s, s ∈ rs ↔ (s < S ∧ pb s = s ∧ pa s ≠ s)) (hN : N ≤ 24) :
    gnd (fun i j => lapS pb e1 e2 N lk (rs.getD i 0) (rs.getD j 0)) 0 rs.length ∧ ∃ f : Nat → Nat, (∀ i, i < rs.length → lapS pb e1 e2 N lk (rs.getD i 0) (rs.getD i 0) = (f i : Int)) ∧ smf f rs.length ≤ 48 := by
  have csym : ∀ u v s t, ctr u v s t = ctr u v t s := fun u v s t => by
    unfold ctr
    by_cases e : u = v
    · rw [if_pos e, if_pos e]
    · rw [if_neg e, if_neg e]
      by_cases g : s = t
      · rw [if_pos g, if_pos g.symm, g]
      · rw [if_neg g, if_neg (fun h : t = s => g h.symm), Int.add_comm]
        have c1 : (s = v ∧ t = u) ↔ (t = u ∧ s = v) := ⟨fun h => ⟨h.2, h.1⟩, fun h => ⟨h.2, h.1⟩⟩
        have c2 : (s = u ∧ t = v) ↔ (t = v ∧ s = u) := ⟨fun h => ⟨h.2, h.1⟩, fun h => ⟨h.2, h.1⟩⟩
        simp only [c1, c2]
  have coff : ∀ u v s t, s ≠ t → ctr u v s t ≤ 0 ∧ (u ≠ v → ((s = u ∧ t = v) ∨ (s = v ∧ t = u)) → ctr u v s t < 0) := fun u v s t hst => by
    unfold ctr
    by_cases e : u = v
    · rw [if_pos e]; exact ⟨Int.le_refl _, fun h => absurd e h⟩
    · rw [if_neg e, if_neg hst]
      constructor
      · split <;> split <;> omega
      · intro _ h
        rcases h with h | h
        · rw [if_pos h]; split <;> omega
        · rw [if_pos h]; split <;> omega
  have cdia : ∀ u v s, 0 ≤ ctr u v s s := fun u v s => by
    unfold ctr
    by_cases e : u = v
    · rw [if_pos e]; exact Int.le_refl _
    · rw [if_neg e, if_pos rfl]; split <;> split <;> omega
  have row : ∀ i, i < rs.length → ssm (fun j => lapS pb e1 e2 N lk (rs.getD i 0) (rs.getD j 0)) 0 rs.length = smI (fun k => if lk k = true then (if pb (e1 k) = pb (e2 k) then 0 else (if rs.getD i 0 = pb (e1 k) then 1 - (if pb (e2 k) ∈ rs then 1 else 0) else 0) + (if rs.getD i 0 = pb (e2 k) then 1 - (if pb (e1 k) ∈ rs then 1 else 0) else 0)) else 0) N := by
    intro i hi
    rw [ssm_list (fun t => lapS pb e1 e2 N lk (rs.getD i 0) t)]
    unfold lapS
    rw [sum_swap (fun k t => if lk k = true then ctr (pb (e1 k)) (pb (e2 k)) (rs.getD i 0) t else 0)]
    refine smI_cong (fun k _ => ?_)
    by_cases h : lk k = true
    · rw [if_pos h, ← sum_ctr hn (getD_mem hi)]
      exact congrArg List.sum (List.map_congr_left (fun t _ => if_pos h))
    · rw [if_neg h]
      have : ∀ l : List Nat, (l.map (fun t => if lk k = true then ctr (pb (e1 k)) (pb (e2 k)) (rs.getD i 0) t else 0)).sum = 0 := by
        intro l
        induction l with
        | nil => rfl
        | cons c l ih => rw [List.map_cons, List.sum_cons, ih, if_neg h]; rfl
      exact this rs
  have term : ∀ (i k : Nat), 0 ≤ (if lk k = true then (if pb (e1 k) = pb (e2 k) then 0 else (if rs.getD i 0 = pb (e1 k) then 1 - (if pb (e2 k) ∈ rs then 1 else 0) else 0) + (if rs.getD i 0 = pb (e2 k) then 1 - (if pb (e1 k) ∈ rs then 1 else 0) else 0)) else (0 : Int)) := fun i k => by
    have q : ∀ (p : Prop) [Decidable p], (0 : Int) ≤ 1 - (if p then 1 else 0) := fun p _ => by split <;> omega
    have q1 := q (pb (e2 k) ∈ rs)
    have q2 := q (pb (e1 k) ∈ rs)
    split
    · split
      · exact Int.le_refl _
      · split <;> split <;> omega
    · exact Int.le_refl _
  refine ⟨⟨fun i j _ _ _ _ => ?_, fun i j _ hi _ hj hij => ?_, fun i _ hi => ?_, fun P hP hcl h0 => ?_⟩, ?_⟩
  · exact smI_cong (fun k _ => by
      by_cases h : lk k = true
      · rw [if_pos h, if_pos h]; exact csym _ _ _ _
      · rw [if_neg h, if_neg h])
  · have hne : rs.getD i 0 ≠ rs.getD j 0 := fun e => hij (getD_inj hn hi hj e)
    have : ∀ n, smI (fun k => if lk k = true then ctr (pb (e1 k)) (pb (e2 k)) (rs.getD i 0) (rs.getD j 0) else 0) n ≤ 0 := by
      intro n
      induction n with
      | zero => exact Int.le_refl _
      | succ n ih =>
        rw [smI]
        have : (if lk n = true then ctr (pb (e1 n)) (pb (e2 n)) (rs.getD i 0) (rs.getD j 0) else 0) ≤ 0 := by
          split
          · exact (coff _ _ _ _ hne).1
          · exact Int.le_refl _
        omega
    exact this N
  · rw [Nat.sub_zero, row i hi]; exact smI_nn (fun k _ => term i k)
  · intro i hi
    have hil := (hP i hi).2
    obtain ⟨s1, s2, s3⟩ := (hr _).mp (getD_mem hil)
    have upc : ∀ {x y}, cn e1 e2 (fun k => k < N ∧ ls k = true) x y → cn e1 e2 (fun k => k < N ∧ (ls k || lk k) = true) x y := fun h => cn_mono (fun k hk => ⟨hk.1, by rw [hk.2]; rfl⟩) h
    -- the cables keep to the part
    have inv : ∀ c, (c < N ∧ (ls c || lk c) = true) → ∀ x y, ed e1 e2 c x y → (∃ i', P i' ∧ rs.getD i' 0 = pb x) → ∃ i', P i' ∧ rs.getD i' 0 = pb y := by
      rintro c ⟨hc1, hc2⟩ x y he ⟨i', h1, h2⟩
      have hxS : x < S ∧ y < S := by have := hw c hc1; unfold ed at he; omega
      by_cases e : pb x = pb y
      · exact ⟨i', h1, h2.trans e⟩
      · have hlc : lk c = true := by
          cases hl : ls c with
          | true =>
            exfalso
            exact e ((hb.1 x y hxS.1 hxS.2).mpr (ed_cn he ⟨hc1, hl⟩))
          | false => rw [hl, Bool.false_or] at hc2; exact hc2
        have hil' := (hP i' h1).2
        have z := h0 i' h1
        rw [Nat.sub_zero, row i' hil'] at z
        have zc := smI_nn0 (fun k _ => term i' k) z c hc1
        rw [if_pos hlc] at zc
        have hne : ¬ pb (e1 c) = pb (e2 c) := by
          rcases he with ⟨a, b⟩ | ⟨a, b⟩
          · rw [a, b] at e; exact e
          · rw [a, b] at e; exact fun g => e g.symm
        rw [if_neg hne] at zc
        have hyr : pb y ∈ rs := by
          refine Classical.byContradiction fun hno => ?_
          rcases he with ⟨a, b⟩ | ⟨a, b⟩
          · rw [a] at h2; rw [b] at hno
            rw [if_pos h2, if_neg hno, if_neg (fun g => hne (h2.symm.trans g))] at zc
            omega
          · rw [a] at h2; rw [b] at hno
            rw [if_neg (fun g => hne (g.symm.trans h2)), if_pos h2, if_neg hno] at zc
            omega
        obtain ⟨j', hj', ej⟩ := List.getElem_of_mem hyr
        have ej' : rs.getD j' 0 = pb y := by rw [List.getD_eq_getElem?_getD, List.getElem?_eq_getElem hj', Option.getD_some, ej]
        have hij : i' ≠ j' := fun g => e (by rw [← h2, ← ej', g])
        refine ⟨j', hcl i' j' (Nat.zero_le _) hil' (Nat.zero_le _) hj' hij ?_ h1, ej'⟩
        show lapS pb e1 e2 N lk (rs.getD i' 0) (rs.getD j' 0) ≠ 0
        rw [h2, ej']
        have neg := smI_np (f := fun k => if lk k = true then ctr (pb (e1 k)) (pb (e2 k)) (pb x) (pb y) else 0) (k0 := c) (n := N) (fun k _ => by
          show (if lk k = true then ctr (pb (e1 k)) (pb (e2 k)) (pb x) (pb y) else 0) ≤ 0
          split
          · exact (coff _ _ _ _ e).1
          · exact Int.le_refl _) hc1
        have hlt : ctr (pb (e1 c)) (pb (e2 c)) (pb x) (pb y) < 0 := (coff _ _ _ _ e).2 hne (by
          rcases he with ⟨a, b⟩ | ⟨a, b⟩
          · rw [a, b]; exact Or.inl ⟨rfl, rfl⟩
          · rw [a, b]; exact Or.inr ⟨rfl, rfl⟩)
        have neg : smI (fun k => if lk k = true then ctr (pb (e1 k)) (pb (e2 k)) (pb x) (pb y) else 0) N ≤ (if lk c = true then ctr (pb (e1 c)) (pb (e2 c)) (pb x) (pb y) else 0) := neg
        rw [if_pos hlc] at neg
        unfold lapS
        omega
    have hst : cn e1 e2 (fun k => k < N ∧ (ls k || lk k) = true) (rs.getD i 0) (pa (rs.getD i 0)) := by
      refine (ha.1 _ _ s1 (Nat.lt_of_le_of_lt (ha.2.1 _) s1)).mp ?_
      rw [ha.2.2.1]
    obtain ⟨j, h1, h2⟩ := hst (fun z => ∃ i', P i' ∧ rs.getD i' 0 = pb z) (fun c hc => ⟨inv c hc _ _ (Or.inl ⟨rfl, rfl⟩), inv c hc _ _ (Or.inr ⟨rfl, rfl⟩)⟩) ⟨i, hi, s2.symm⟩
    generalize ht : pa (rs.getD i 0) = t at *
    have htS : t < S := by rw [← ht]; exact Nat.lt_of_le_of_lt (ha.2.1 _) s1
    have hpt : pa t = t := by rw [← ht]; exact ha.2.2.1 _
    have hbt : pb t = t := by
      have c1 : cn e1 e2 (fun k => k < N ∧ (ls k || lk k) = true) (pb t) t := upc ((hb.1 (pb t) t (Nat.lt_of_le_of_lt (hb.2.1 _) htS) htS).mp (hb.2.2.1 t))
      have c2 := (ha.1 (pb t) t (Nat.lt_of_le_of_lt (hb.2.1 _) htS) htS).mpr c1
      have c3 := ha.2.1 (pb t)
      have c4 := hb.2.1 t
      omega
    have := (hr _).mp (getD_mem (hP j h1).2)
    rw [h2, hbt] at this
    exact this.2.2 hpt
  · refine ⟨fun i => (lapS pb e1 e2 N lk (rs.getD i 0) (rs.getD i 0)).toNat, fun i _ => ?_, ?_⟩
    · have : 0 ≤ lapS pb e1 e2 N lk (rs.getD i 0) (rs.getD i 0) := smI_nn (fun k _ => by
        split
        · exact cdia _ _ _
        · exact Int.le_refl _)
      show lapS pb e1 e2 N lk (rs.getD i 0) (rs.getD i 0) = ((lapS pb e1 e2 N lk (rs.getD i 0) (rs.getD i 0)).toNat : Int)
      omega
    · have conv : ∀ n, (smf (fun i => (lapS pb e1 e2 N lk (rs.getD i 0) (rs.getD i 0)).toNat) n : Int) = ssm (fun i => lapS pb e1 e2 N lk (rs.getD i 0) (rs.getD i 0)) 0 n := by
        intro n
        induction n with
        | zero => rfl
        | succ n ih =>
          rw [smf, ssm, Nat.zero_add, ← ih]
          have : 0 ≤ lapS pb e1 e2 N lk (rs.getD n 0) (rs.getD n 0) := smI_nn (fun k _ => by
            split
            · exact cdia _ _ _
            · exact Int.le_refl _)
          omega
      have e1' := conv rs.length
      rw [ssm_list (fun t => lapS pb e1 e2 N lk t t)] at e1'
      have e2' : (rs.map (fun t => lapS pb e1 e2 N lk t t)).sum = smI (fun k => (rs.map (fun t => if lk k = true then ctr (pb (e1 k)) (pb (e2 k)) t t else 0)).sum) N := sum_swap (fun k t => if lk k = true then ctr (pb (e1 k)) (pb (e2 k)) t t else 0) N rs
      rw [e2'] at e1'
      have each : ∀ k, (rs.map (fun t => if lk k = true then ctr (pb (e1 k)) (pb (e2 k)) t t else 0)).sum ≤ 2 := fun k => by
        have : ∀ u v, ∀ l : List Nat, (l.map (fun t => ctr u v t t)).sum ≤ (l.map (fun t => if t = u then (1 : Int) else 0)).sum + (l.map (fun t => if t = v then (1 : Int) else 0)).sum := by
          intro u v l
          induction l with
          | nil => exact Int.le_refl _
          | cons c l ih =>
            rw [List.map_cons, List.sum_cons, List.map_cons, List.sum_cons, List.map_cons, List.sum_cons]
            have : ctr u v c c ≤ (if c = u then 1 else 0) + (if c = v then 1 else 0) := by
              unfold ctr
              split
              · split <;> split <;> omega
              · rw [if_pos rfl]; exact Int.le_refl _
            omega
        by_cases h : lk k = true
        · have t := this (pb (e1 k)) (pb (e2 k)) rs
          rw [sum_one _ _ hn, sum_one _ _ hn] at t
          have e : rs.map (fun t => if lk k = true then ctr (pb (e1 k)) (pb (e2 k)) t t else 0) = rs.map (fun t => ctr (pb (e1 k)) (pb (e2 k)) t t) := List.map_congr_left (fun t _ => if_pos h)
          rw [e]
          have q : ∀ (p : Prop) [Decidable p], (if p then (1 : Int) else 0) ≤ 1 := fun p _ => by split <;> omega
          have q1 := q (pb (e1 k) ∈ rs)
          have q2 := q (pb (e2 k) ∈ rs)
          omega
        · have : ∀ l : List Nat, (l.map (fun t => if lk k = true then ctr (pb (e1 k)) (pb (e2 k)) t t else 0)).sum = 0 := by
            intro l
            induction l with
            | nil => rfl
            | cons c l ih => rw [List.map_cons, List.sum_cons, ih, if_neg h]; rfl
          rw [this]; decide
      have tot : ∀ n, smI (fun k => (rs.map (fun t => if lk k = true then ctr (pb (e1 k)) (pb (e2 k)) t t else 0)).sum) n ≤ 2 * n := by
        intro n
        induction n with
        | zero => exact Int.le_refl _
        | succ n ih => rw [smI]; have := each n; omega
      have := tot N
      omega
