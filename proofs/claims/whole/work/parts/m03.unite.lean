/-! unite: two pieces become one -/
theorem ab_min_nI {u v : Nat} (hu : u < 2 ^ 31) (hv : v < 2 ^ 31) : ab_min32 (nI u) (nI v) = nI (min u v) := by
  unfold ab_min32
  by_cases h : v < u
  · rw [if_pos ((nI_ltI hv hu).mpr h), Nat.min_eq_right (by omega)]
  · rw [if_neg (fun g => h ((nI_ltI hv hu).mp g)), Nat.min_eq_left (by omega)]
theorem ab_max_nI {u v : Nat} (hu : u < 2 ^ 31) (hv : v < 2 ^ 31) : ab_max32 (nI u) (nI v) = nI (max u v) := by
  unfold ab_max32
  by_cases h : u < v
  · rw [if_pos ((nI_ltI hu hv).mpr h), Nat.max_eq_right (by omega)]
  · rw [if_neg (fun g => h ((nI_ltI hu hv).mp g)), Nat.max_eq_left (by omega)]
def un_row (f : Nat → Int32) (pc : Nat → Nat) (u v i : Nat) : Nat → Int32 := fun x => if x < i ∧ x < 10 then nI (mg pc u v x) else f x
theorem un_row_start {f : Nat → Int32} {pc : Nat → Nat} {u v : Nat} (hf : ∀ x, x < 10 → f x = nI (pc x)) (hle : ∀ x, pc x ≤ x) : un_row f pc u v (max u v) = f := by
  funext x
  unfold un_row
  split
  · rename_i h
    unfold mg
    have := hle x
    rw [if_neg (by omega), hf x h.2]
  · rfl
theorem un_row_hit {f : Nat → Int32} {pc : Nat → Nat} {u v i : Nat} (hi : i < 10) (h : pc i = max u v) : upd (un_row f pc u v i) i (nI (min u v)) = un_row f pc u v (i + 1) := by
  funext x
  by_cases e : x = i
  · subst e
    rw [pk_us]
    unfold un_row
    rw [if_pos ⟨by omega, hi⟩]
    unfold mg
    rw [if_pos h]
  · rw [pk_un e]
    unfold un_row
    by_cases g : x < i
    · by_cases g2 : x < 10
      · rw [if_pos ⟨g, g2⟩, if_pos ⟨by omega, g2⟩]
      · rw [if_neg (fun h => g2 h.2), if_neg (fun h => g2 h.2)]
    · rw [if_neg (fun h => g h.1), if_neg (fun h => g (by omega))]
theorem un_row_miss {f : Nat → Int32} {pc : Nat → Nat} {u v i : Nat} (hf : ∀ x, x < 10 → f x = nI (pc x)) (hi : i < 10) (h : ¬ pc i = max u v) : un_row f pc u v i = un_row f pc u v (i + 1) := by
  funext x
  unfold un_row
  by_cases e : x = i
  · subst e
    rw [if_neg (fun h => by omega), if_pos ⟨by omega, hi⟩]
    unfold mg
    rw [if_neg h]
    exact hf x hi
  · by_cases g : x < i
    · by_cases g2 : x < 10
      · rw [if_pos ⟨g, g2⟩, if_pos ⟨by omega, g2⟩]
      · rw [if_neg (fun h => g2 h.2), if_neg (fun h => g2 h.2)]
    · rw [if_neg (fun h => g h.1), if_neg (fun h => g (by omega))]
theorem u0_eq {w : ab_Wd} {d n nc ns : Nat} {I : Nat → Nat → Int32} {L : Nat → Nat → Int64} (hT : w.1.stackTraces = false) {pc : Nat → Nat} {a b : Nat} (hI : ∀ x, x < 10 → I kx_trialNet_piece x = nI (pc x)) (hle : ∀ x, pc x ≤ x) (ha : a < 10) (hb : b < 10) (he : pc a = pc b) : ab_PU w (d + 1) mt_K_unite [.ref kx_trialNet_piece, .int (nI a), .int (nI b)] I L n nc ns 0 I := by
  refine ab_C_of (by decide) rfl (Nat.le_of_ble_eq_true rfl) hT ?_
  have ca := nI_clamp (n := a) (by omega)
  have cb := nI_clamp (n := b) (by omega)
  have e1 : I kx_trialNet_piece (nI a).toNatClampNeg = nI (pc a) := by rw [ca]; exact hI a ha
  have e2 : I kx_trialNet_piece (nI b).toNatClampNeg = nI (pc b) := by rw [cb]; exact hI b hb
  have la := hle a
  have lb := hle b
  refine q_K_unite_0_0 (nI a) (nI b) (Nat.le_refl _) (Nat.le_refl _) ⟨vp_in_nI ha (by omega), vp_in_nI hb (by omega), fun h => absurd ?_ h, fun _ => rfl⟩
  rw [e1, e2, ab_min_nI (by omega) (by omega), ab_max_nI (by omega) (by omega)]
  congr 1
  omega
theorem u0_ne {w : ab_Wd} {d n nc ns : Nat} {I : Nat → Nat → Int32} {L : Nat → Nat → Int64} (hT : w.1.stackTraces = false) {pc : Nat → Nat} {a b : Nat} (hI : ∀ x, x < 10 → I kx_trialNet_piece x = nI (pc x)) (hle : ∀ x, pc x ≤ x) (ha : a < 10) (hb : b < 10) (hne : ¬ pc a = pc b) : ab_PU w (d + 1) mt_K_unite [.ref kx_trialNet_piece, .int (nI a), .int (nI b)] I L n nc ns 1 (ab_row I kx_trialNet_piece (un_row (I kx_trialNet_piece) pc (pc a) (pc b) 10)) := by
  refine ab_C_of (by decide) rfl (Nat.le_of_ble_eq_true rfl) hT ?_
  have ca := nI_clamp (n := a) (by omega)
  have cb := nI_clamp (n := b) (by omega)
  have e1 : I kx_trialNet_piece (nI a).toNatClampNeg = nI (pc a) := by rw [ca]; exact hI a ha
  have e2 : I kx_trialNet_piece (nI b).toNatClampNeg = nI (pc b) := by rw [cb]; exact hI b hb
  have la := hle a
  have lb := hle b
  generalize hu : pc a = u at *
  generalize hv : pc b = v at *
  have e3 : ab_min32 (nI u) (nI v) = nI (min u v) := ab_min_nI (by omega) (by omega)
  have e4 : ab_max32 (nI u) (nI v) = nI (max u v) := ab_max_nI (by omega) (by omega)
  have loop : ∀ k i, i + k = 10 → max u v ≤ i → ab_E w (d + 1) mt_K_unite 33 [.ref kx_trialNet_piece, .int (nI a), .int (nI b), .int (nI (min u v)), .int (nI (max u v)), .int (nI i)] [] (ab_row I kx_trialNet_piece (un_row (I kx_trialNet_piece) pc u v i), L, ab_RR, n, nc, ns) (.inl (some (.int 1)), (ab_row I kx_trialNet_piece (un_row (I kx_trialNet_piece) pc u v 10), L, ab_RR, n, nc, ns)) := by
    intro k
    induction k with
    | zero =>
      intro i hi _
      have e9 : i = 10 := by omega
      subst e9
      refine q_K_unite_0_33 _ _ _ _ (nI 10) (Nat.le_refl _) (Nat.le_refl _) ⟨fun _ => rfl, fun h => absurd ?_ h⟩
      exact nI_le (a := 10) (b := 10) (by omega) (by omega)
    | succ k ih =>
      intro i hi hm
      have ci := nI_clamp (n := i) (by omega)
      have hin : vp_in (nI i) 10 := vp_in_nI (by omega) (by omega)
      have nx := ih (i + 1) (by omega) (by omega)
      rw [← nI_1] at nx
      have hr : ab_row I kx_trialNet_piece (un_row (I kx_trialNet_piece) pc u v i) kx_trialNet_piece (nI i).toNatClampNeg = nI (pc i) := by
        rw [ab_row_eq, ci]
        unfold un_row
        rw [if_neg (by omega)]
        exact hI i (by omega)
      have li := hle i
      refine q_K_unite_0_33 _ _ _ _ (nI i) (Nat.le_refl _) (Nat.le_refl _) ⟨fun h => absurd h (nI_ge (b := 10) (by omega) (by omega)), fun _ => ⟨hin, fun h => ?_, fun h => ?_⟩⟩
      · rw [hr] at h
        refine q_K_unite_0_54 _ _ _ _ (nI i) (Nat.le_refl _) (Nat.le_refl _) ?_
        rw [un_row_miss hI (by omega) (fun g => h (by rw [g]))]
        exact nx
      · rw [hr] at h
        refine q_K_unite_0_54 _ _ _ _ (nI i) (Nat.le_refl _) (Nat.le_refl _) ?_
        have hp : pc i = max u v := (nI_eq (by omega) (by omega)).mp h
        rw [ab_up_row, ab_row_row, ab_row_eq, ci, un_row_hit (by omega) hp]
        exact nx
  refine q_K_unite_0_0 (nI a) (nI b) (Nat.le_refl _) (Nat.le_refl _) ⟨vp_in_nI ha (by omega), vp_in_nI hb (by omega), fun _ => ?_, fun h => absurd h ?_⟩
  · rw [e1, e2, e3, e4]
    have := loop (10 - max u v) (max u v) (by omega) (Nat.le_refl _)
    rw [un_row_start hI hle, ab_row_id] at this
    exact this
  · rw [e1, e2, e3, e4]
    intro h
    have := (nI_eq (by omega) (by omega)).mp h
    omega
theorem u1_eq {w : ab_Wd} {d n nc ns : Nat} {I : Nat → Nat → Int32} {L : Nat → Nat → Int64} (hT : w.1.stackTraces = false) {pc : Nat → Nat} {a b : Nat} (hI : ∀ x, x < 10 → I kx_forest_piece x = nI (pc x)) (hle : ∀ x, pc x ≤ x) (ha : a < 10) (hb : b < 10) (he : pc a = pc b) : ab_PU w (d + 1) mt_K_unite [.ref kx_forest_piece, .int (nI a), .int (nI b)] I L n nc ns 0 I := by
  refine ab_C_of (by decide) rfl (Nat.le_of_ble_eq_true rfl) hT ?_
  have ca := nI_clamp (n := a) (by omega)
  have cb := nI_clamp (n := b) (by omega)
  have e1 : I kx_forest_piece (nI a).toNatClampNeg = nI (pc a) := by rw [ca]; exact hI a ha
  have e2 : I kx_forest_piece (nI b).toNatClampNeg = nI (pc b) := by rw [cb]; exact hI b hb
  have la := hle a
  have lb := hle b
  refine q_K_unite_1_0 (nI a) (nI b) (Nat.le_refl _) (Nat.le_refl _) ⟨vp_in_nI ha (by omega), vp_in_nI hb (by omega), fun h => absurd ?_ h, fun _ => rfl⟩
  rw [e1, e2, ab_min_nI (by omega) (by omega), ab_max_nI (by omega) (by omega)]
  congr 1
  omega
theorem u1_ne {w : ab_Wd} {d n nc ns : Nat} {I : Nat → Nat → Int32} {L : Nat → Nat → Int64} (hT : w.1.stackTraces = false) {pc : Nat → Nat} {a b : Nat} (hI : ∀ x, x < 10 → I kx_forest_piece x = nI (pc x)) (hle : ∀ x, pc x ≤ x) (ha : a < 10) (hb : b < 10) (hne : ¬ pc a = pc b) : ab_PU w (d + 1) mt_K_unite [.ref kx_forest_piece, .int (nI a), .int (nI b)] I L n nc ns 1 (ab_row I kx_forest_piece (un_row (I kx_forest_piece) pc (pc a) (pc b) 10)) := by
  refine ab_C_of (by decide) rfl (Nat.le_of_ble_eq_true rfl) hT ?_
  have ca := nI_clamp (n := a) (by omega)
  have cb := nI_clamp (n := b) (by omega)
  have e1 : I kx_forest_piece (nI a).toNatClampNeg = nI (pc a) := by rw [ca]; exact hI a ha
  have e2 : I kx_forest_piece (nI b).toNatClampNeg = nI (pc b) := by rw [cb]; exact hI b hb
  have la := hle a
  have lb := hle b
  generalize hu : pc a = u at *
  generalize hv : pc b = v at *
  have e3 : ab_min32 (nI u) (nI v) = nI (min u v) := ab_min_nI (by omega) (by omega)
  have e4 : ab_max32 (nI u) (nI v) = nI (max u v) := ab_max_nI (by omega) (by omega)
  have loop : ∀ k i, i + k = 10 → max u v ≤ i → ab_E w (d + 1) mt_K_unite 33 [.ref kx_forest_piece, .int (nI a), .int (nI b), .int (nI (min u v)), .int (nI (max u v)), .int (nI i)] [] (ab_row I kx_forest_piece (un_row (I kx_forest_piece) pc u v i), L, ab_RR, n, nc, ns) (.inl (some (.int 1)), (ab_row I kx_forest_piece (un_row (I kx_forest_piece) pc u v 10), L, ab_RR, n, nc, ns)) := by
    intro k
    induction k with
    | zero =>
      intro i hi _
      have e9 : i = 10 := by omega
      subst e9
      refine q_K_unite_1_33 _ _ _ _ (nI 10) (Nat.le_refl _) (Nat.le_refl _) ⟨fun _ => rfl, fun h => absurd ?_ h⟩
      exact nI_le (a := 10) (b := 10) (by omega) (by omega)
    | succ k ih =>
      intro i hi hm
      have ci := nI_clamp (n := i) (by omega)
      have hin : vp_in (nI i) 10 := vp_in_nI (by omega) (by omega)
      have nx := ih (i + 1) (by omega) (by omega)
      rw [← nI_1] at nx
      have hr : ab_row I kx_forest_piece (un_row (I kx_forest_piece) pc u v i) kx_forest_piece (nI i).toNatClampNeg = nI (pc i) := by
        rw [ab_row_eq, ci]
        unfold un_row
        rw [if_neg (by omega)]
        exact hI i (by omega)
      have li := hle i
      refine q_K_unite_1_33 _ _ _ _ (nI i) (Nat.le_refl _) (Nat.le_refl _) ⟨fun h => absurd h (nI_ge (b := 10) (by omega) (by omega)), fun _ => ⟨hin, fun h => ?_, fun h => ?_⟩⟩
      · rw [hr] at h
        refine q_K_unite_1_54 _ _ _ _ (nI i) (Nat.le_refl _) (Nat.le_refl _) ?_
        rw [un_row_miss hI (by omega) (fun g => h (by rw [g]))]
        exact nx
      · rw [hr] at h
        refine q_K_unite_1_54 _ _ _ _ (nI i) (Nat.le_refl _) (Nat.le_refl _) ?_
        have hp : pc i = max u v := (nI_eq (by omega) (by omega)).mp h
        rw [ab_up_row, ab_row_row, ab_row_eq, ci, un_row_hit (by omega) hp]
        exact nx
  refine q_K_unite_1_0 (nI a) (nI b) (Nat.le_refl _) (Nat.le_refl _) ⟨vp_in_nI ha (by omega), vp_in_nI hb (by omega), fun _ => ?_, fun h => absurd h ?_⟩
  · rw [e1, e2, e3, e4]
    have := loop (10 - max u v) (max u v) (by omega) (Nat.le_refl _)
    rw [un_row_start hI hle, ab_row_id] at this
    exact this
  · rw [e1, e2, e3, e4]
    intro h
    have := (nI_eq (by omega) (by omega)).mp h
    omega
theorem u2_eq {w : ab_Wd} {d n nc ns : Nat} {I : Nat → Nat → Int32} {L : Nat → Nat → Int64} (hT : w.1.stackTraces = false) {pc : Nat → Nat} {a b : Nat} (hI : ∀ x, x < 10 → I kx_likes_behind x = nI (pc x)) (hle : ∀ x, pc x ≤ x) (ha : a < 10) (hb : b < 10) (he : pc a = pc b) : ab_PU w (d + 1) mt_K_unite [.ref kx_likes_behind, .int (nI a), .int (nI b)] I L n nc ns 0 I := by
  refine ab_C_of (by decide) rfl (Nat.le_of_ble_eq_true rfl) hT ?_
  have ca := nI_clamp (n := a) (by omega)
  have cb := nI_clamp (n := b) (by omega)
  have e1 : I kx_likes_behind (nI a).toNatClampNeg = nI (pc a) := by rw [ca]; exact hI a ha
  have e2 : I kx_likes_behind (nI b).toNatClampNeg = nI (pc b) := by rw [cb]; exact hI b hb
  have la := hle a
  have lb := hle b
  refine q_K_unite_2_0 (nI a) (nI b) (Nat.le_refl _) (Nat.le_refl _) ⟨vp_in_nI ha (by omega), vp_in_nI hb (by omega), fun h => absurd ?_ h, fun _ => rfl⟩
  rw [e1, e2, ab_min_nI (by omega) (by omega), ab_max_nI (by omega) (by omega)]
  congr 1
  omega
theorem u2_ne {w : ab_Wd} {d n nc ns : Nat} {I : Nat → Nat → Int32} {L : Nat → Nat → Int64} (hT : w.1.stackTraces = false) {pc : Nat → Nat} {a b : Nat} (hI : ∀ x, x < 10 → I kx_likes_behind x = nI (pc x)) (hle : ∀ x, pc x ≤ x) (ha : a < 10) (hb : b < 10) (hne : ¬ pc a = pc b) : ab_PU w (d + 1) mt_K_unite [.ref kx_likes_behind, .int (nI a), .int (nI b)] I L n nc ns 1 (ab_row I kx_likes_behind (un_row (I kx_likes_behind) pc (pc a) (pc b) 10)) := by
  refine ab_C_of (by decide) rfl (Nat.le_of_ble_eq_true rfl) hT ?_
  have ca := nI_clamp (n := a) (by omega)
  have cb := nI_clamp (n := b) (by omega)
  have e1 : I kx_likes_behind (nI a).toNatClampNeg = nI (pc a) := by rw [ca]; exact hI a ha
  have e2 : I kx_likes_behind (nI b).toNatClampNeg = nI (pc b) := by rw [cb]; exact hI b hb
  have la := hle a
  have lb := hle b
  generalize hu : pc a = u at *
  generalize hv : pc b = v at *
  have e3 : ab_min32 (nI u) (nI v) = nI (min u v) := ab_min_nI (by omega) (by omega)
  have e4 : ab_max32 (nI u) (nI v) = nI (max u v) := ab_max_nI (by omega) (by omega)
  have loop : ∀ k i, i + k = 10 → max u v ≤ i → ab_E w (d + 1) mt_K_unite 33 [.ref kx_likes_behind, .int (nI a), .int (nI b), .int (nI (min u v)), .int (nI (max u v)), .int (nI i)] [] (ab_row I kx_likes_behind (un_row (I kx_likes_behind) pc u v i), L, ab_RR, n, nc, ns) (.inl (some (.int 1)), (ab_row I kx_likes_behind (un_row (I kx_likes_behind) pc u v 10), L, ab_RR, n, nc, ns)) := by
    intro k
    induction k with
    | zero =>
      intro i hi _
      have e9 : i = 10 := by omega
      subst e9
      refine q_K_unite_2_33 _ _ _ _ (nI 10) (Nat.le_refl _) (Nat.le_refl _) ⟨fun _ => rfl, fun h => absurd ?_ h⟩
      exact nI_le (a := 10) (b := 10) (by omega) (by omega)
    | succ k ih =>
      intro i hi hm
      have ci := nI_clamp (n := i) (by omega)
      have hin : vp_in (nI i) 10 := vp_in_nI (by omega) (by omega)
      have nx := ih (i + 1) (by omega) (by omega)
      rw [← nI_1] at nx
      have hr : ab_row I kx_likes_behind (un_row (I kx_likes_behind) pc u v i) kx_likes_behind (nI i).toNatClampNeg = nI (pc i) := by
        rw [ab_row_eq, ci]
        unfold un_row
        rw [if_neg (by omega)]
        exact hI i (by omega)
      have li := hle i
      refine q_K_unite_2_33 _ _ _ _ (nI i) (Nat.le_refl _) (Nat.le_refl _) ⟨fun h => absurd h (nI_ge (b := 10) (by omega) (by omega)), fun _ => ⟨hin, fun h => ?_, fun h => ?_⟩⟩
      · rw [hr] at h
        refine q_K_unite_2_54 _ _ _ _ (nI i) (Nat.le_refl _) (Nat.le_refl _) ?_
        rw [un_row_miss hI (by omega) (fun g => h (by rw [g]))]
        exact nx
      · rw [hr] at h
        refine q_K_unite_2_54 _ _ _ _ (nI i) (Nat.le_refl _) (Nat.le_refl _) ?_
        have hp : pc i = max u v := (nI_eq (by omega) (by omega)).mp h
        rw [ab_up_row, ab_row_row, ab_row_eq, ci, un_row_hit (by omega) hp]
        exact nx
  refine q_K_unite_2_0 (nI a) (nI b) (Nat.le_refl _) (Nat.le_refl _) ⟨vp_in_nI ha (by omega), vp_in_nI hb (by omega), fun _ => ?_, fun h => absurd h ?_⟩
  · rw [e1, e2, e3, e4]
    have := loop (10 - max u v) (max u v) (by omega) (Nat.le_refl _)
    rw [un_row_start hI hle, ab_row_id] at this
    exact this
  · rw [e1, e2, e3, e4]
    intro h
    have := (nI_eq (by omega) (by omega)).mp h
    omega
