theorem i32_addm1 (x : Int32) : x + (-1) = x - 1 := by rw [Int32.sub_eq_add_neg]
/-! sort: the cables in the order of their prices -/
theorem od_ins {pr : Nat → Nat} {c : Nat} {A B : List Nat} (h : od pr c (A ++ B)) (hB : ∀ b ∈ B, pr c < pr b) (hA : A = [] ∨ ∃ A' z, A = A' ++ [z] ∧ pr z ≤ pr c) : od pr (c + 1) (A ++ c :: B) := by
  obtain ⟨h1, h2⟩ := h
  have hlt : ∀ k ∈ A ++ B, k < c := fun k hk => (h2 k).mp hk
  obtain ⟨p1, p2, p3⟩ := List.pairwise_append.mp h1
  have hAc : ∀ a ∈ A, ch pr a c := by
    intro a ha
    rcases hA with e | ⟨A', z, e, hz⟩
    · subst e; cases ha
    · have hzc : ch pr z c := by
        have : z < c := hlt z (by rw [e]; simp)
        unfold ch; omega
      subst e
      rcases List.mem_append.mp ha with h | h
      · exact ch_trans ((List.pairwise_append.mp p1).2.2 a h z List.mem_cons_self) hzc
      · cases List.mem_singleton.mp h; exact hzc
  refine ⟨List.pairwise_append.mpr ⟨p1, List.pairwise_cons.mpr ⟨fun b hb => Or.inl (hB b hb), p2⟩, ?_⟩, fun k => ?_⟩
  · intro a ha b hb
    rcases List.mem_cons.mp hb with e | hb
    · subst e; exact hAc a ha
    · exact p3 a ha b hb
  · have := h2 k
    rw [List.mem_append] at this
    rw [List.mem_append, List.mem_cons]
    constructor
    · rintro (h | h | h)
      · have := this.mp (Or.inl h); omega
      · omega
      · have := this.mp (Or.inr h); omega
    · intro h
      by_cases e : k = c
      · exact Or.inr (Or.inl e)
      · rcases this.mpr (by omega) with h | h
        · exact Or.inl h
        · exact Or.inr (Or.inr h)
theorem od_len {pr : Nat → Nat} : ∀ {N : Nat} {l : List Nat}, od pr N l → l.length = N := by
  intro N l h
  have hn := od_nodup h
  have h1 : l.length ≤ (List.range N).length := List.Nodup.length_le_of_subset hn (fun k hk => List.mem_range.mpr ((h.2 k).mp hk))
  have h2 : (List.range N).length ≤ l.length := List.Nodup.length_le_of_subset List.nodup_range (fun k hk => (h.2 k).mpr (List.mem_range.mp hk))
  rw [List.length_range] at h1 h2
  omega
/-- the row as it stands while one cable seeks its place -/
def so_row (f r : Nat → Int32) (c : Nat) (A B : List Nat) : Prop := (∀ i, i < A.length → r i = nI (A.getD i 0)) ∧ (∀ j, j < B.length → r (A.length + 1 + j) = nI (B.getD j 0)) ∧ ∀ i, c < i → r i = f i
theorem s0_ok {w : ab_Wd} {d n nc ns : Nat} {I : Nat → Nat → Int32} {L : Nat → Nat → Int64} (hT : w.1.stackTraces = false) {N : Nat} {pr : Nat → Nat} (hN : I kx_now_cables 1 = nI N) (h24 : N ≤ 24) (hpr : ∀ k, k < N → I kx_now_cables_price k = nI (pr k) ∧ pr k ≤ 999) :
    ∃ (g : Nat → Int32) (l : List Nat), od pr N l ∧ (∀ i, i < N → g i = nI (l.getD i 0)) ∧ (∀ i, N ≤ i → g i = I kx_now_cables_order i) ∧ ab_U w d mt_Cables_sort [.ref kx_now_cables] I L n nc ns (ab_row I kx_now_cables_order g) := by
  have outer : ∀ k c (g : Nat → Int32) (l : List Nat), c + k = N → od pr c l → (∀ i, i < c → g i = nI (l.getD i 0)) → (∀ i, c ≤ i → g i = I kx_now_cables_order i) →
      ∃ (g' : Nat → Int32) (l' : List Nat), od pr N l' ∧ (∀ i, i < N → g' i = nI (l'.getD i 0)) ∧ (∀ i, N ≤ i → g' i = I kx_now_cables_order i) ∧ ab_E w d mt_Cables_sort 2 [.ref kx_now_cables, .int (nI c), .null] [] (ab_row I kx_now_cables_order g, L, ab_RR, n, nc, ns) (.inl none, (ab_row I kx_now_cables_order g', L, ab_RR, n, nc, ns)) := by
    intro k
    induction k with
    | zero =>
      intro c g l hc ho hg hgo
      have e : c = N := by omega
      subst e
      refine ⟨g, l, ho, hg, hgo, q_Cables_sort_0_2 (nI c) (Nat.le_refl _) (Nat.le_refl _) ⟨fun _ => rfl, fun h => absurd ?_ h⟩⟩
      rw [ab_row_ne (by decide), hN]
      exact nI_le (Nat.le_refl _) (by omega)
    | succ k ih =>
      intro c g l hc ho hg hgo
      have hlen := od_len ho
      have cc := nI_clamp (n := c) (by omega)
      have hpc := hpr c (by omega)
      have inner : ∀ (B A : List Nat) (r : Nat → Int32), l = A ++ B → so_row (I kx_now_cables_order) r c A B → (∀ b ∈ B, pr c < pr b) →
          ∃ (g' : Nat → Int32) (l' : List Nat), od pr N l' ∧ (∀ i, i < N → g' i = nI (l'.getD i 0)) ∧ (∀ i, N ≤ i → g' i = I kx_now_cables_order i) ∧ ab_E w d mt_Cables_sort 12 [.ref kx_now_cables, .int (nI c), .int (nI A.length)] [] (ab_row I kx_now_cables_order r, L, ab_RR, n, nc, ns) (.inl none, (ab_row I kx_now_cables_order g', L, ab_RR, n, nc, ns)) := by
        -- the end: the place is found
        have place : ∀ (A B : List Nat) (r : Nat → Int32), l = A ++ B → so_row (I kx_now_cables_order) r c A B → (∀ b ∈ B, pr c < pr b) → (A = [] ∨ ∃ A' z, A = A' ++ [z] ∧ pr z ≤ pr c) →
            ∃ (g' : Nat → Int32) (l' : List Nat), od pr N l' ∧ (∀ i, i < N → g' i = nI (l'.getD i 0)) ∧ (∀ i, N ≤ i → g' i = I kx_now_cables_order i) ∧ ab_E w d mt_Cables_sort 58 [.ref kx_now_cables, .int (nI c), .int (nI A.length)] [] (ab_row I kx_now_cables_order r, L, ab_RR, n, nc, ns) (.inl none, (ab_row I kx_now_cables_order g', L, ab_RR, n, nc, ns)) := by
          intro A B r hl hr hB hA
          rw [hl, List.length_append] at hlen
          have ho2 := ho
          rw [hl] at ho2
          have ca := nI_clamp (n := A.length) (by omega)
          obtain ⟨r1, r2, r3⟩ := hr
          obtain ⟨g', l', o1, o2, o3, o4⟩ := ih (c + 1) (upd r A.length (nI c)) (A ++ c :: B) (by omega) (od_ins ho2 hB hA) (fun i hi => by
            rw [List.getD_eq_getElem?_getD]
            by_cases e : i = A.length
            · subst e; rw [pk_us, List.getElem?_append_right (Nat.le_refl _)]; simp
            · rw [pk_un e]
              by_cases g : i < A.length
              · rw [List.getElem?_append_left g, ← List.getD_eq_getElem?_getD]; exact r1 i g
              · have e2 : i = A.length + 1 + (i - A.length - 1) := by omega
                rw [List.getElem?_append_right (by omega), show i - A.length = (i - A.length - 1) + 1 by omega, List.getElem?_cons_succ, ← List.getD_eq_getElem?_getD]
                have := r2 (i - A.length - 1) (by omega)
                rw [← e2] at this
                exact this) (fun i hi => by rw [pk_un (by omega)]; exact r3 i (by omega))
          refine ⟨g', l', o1, o2, o3, q_Cables_sort_0_58 (nI c) (nI A.length) (Nat.le_refl _) (Nat.le_refl _) ⟨vp_in_nI (by omega) (by omega), ?_⟩⟩
          rw [nI_1, ab_up_row, ab_row_row, ab_row_eq, ca]
          exact o4
        intro B A
        induction A using sn_ind generalizing B with
        | nil =>
          intro r hl hr hB
          obtain ⟨g', l', o1, o2, o3, o4⟩ := place [] B r hl hr hB (Or.inl rfl)
          exact ⟨g', l', o1, o2, o3, q_Cables_sort_0_12 (nI c) (nI 0) (Nat.le_refl _) (Nat.le_refl _) ⟨fun _ => o4, fun h => absurd (by decide) h⟩⟩
        | append_singleton A z ihA =>
          intro r hl hr hB
          have hlen2 := hlen
          rw [hl, List.length_append, List.length_append, List.length_singleton] at hlen2
          have e1 : (A ++ [z]).length = A.length + 1 := by simp
          have hsub : nI (A ++ [z]).length - 1 = nI A.length := by rw [e1]; exact nI_pred _
          have ca := nI_clamp (n := A.length) (by omega)
          have ca1 := nI_clamp (n := (A ++ [z]).length) (by omega)
          have hz : z < c := (ho.2 z).mp (by rw [hl]; simp)
          have cz := nI_clamp (n := z) (by omega)
          have hpz := hpr z (by omega)
          have rz : r A.length = nI z := by rw [hr.1 A.length (by omega), List.getD_eq_getElem?_getD, List.getElem?_append_right (Nat.le_refl _)]; simp
          have hpos : ¬ nI (A ++ [z]).length ≤ 0 := nI_nle (by omega) (by omega)
          have rd1 : (ab_row I kx_now_cables_order r) kx_now_cables_order (nI (A ++ [z]).length - 1).toNatClampNeg = nI z := by rw [ab_row_eq, hsub, ca]; exact rz
          have rd2 : (ab_row I kx_now_cables_order r) kx_now_cables_price ((ab_row I kx_now_cables_order r) kx_now_cables_order (nI (A ++ [z]).length - 1).toNatClampNeg).toNatClampNeg = nI (pr z) := by rw [rd1, ab_row_ne (by decide), cz]; exact hpz.1
          have rd3 : (ab_row I kx_now_cables_order r) kx_now_cables_price (nI c).toNatClampNeg = nI (pr c) := by rw [ab_row_ne (by decide), cc]; exact hpc.1
          by_cases hle : pr z ≤ pr c
          · obtain ⟨g', l', o1, o2, o3, o4⟩ := place (A ++ [z]) B r hl hr hB (Or.inr ⟨A, z, rfl, hle⟩)
            refine ⟨g', l', o1, o2, o3, q_Cables_sort_0_12 (nI c) (nI (A ++ [z]).length) (Nat.le_refl _) (Nat.le_refl _) ⟨fun h => absurd h hpos, fun _ => ⟨?_, ?_, ?_, fun _ => o4, fun h => absurd ?_ h⟩⟩⟩
            · rw [hsub]; exact vp_in_nI (by omega) (by omega)
            · rw [rd1]; exact vp_in_nI (by omega) (by omega)
            · exact vp_in_nI (by omega) (by omega)
            · rw [rd2, rd3]; exact nI_le hle (by omega)
          · obtain ⟨r1, r2, r3⟩ := hr
            obtain ⟨g', l', o1, o2, o3, o4⟩ := ihA (z :: B) (upd r (A ++ [z]).length (nI z)) (by rw [hl]; simp) ⟨fun i hi => by
                rw [pk_un (by omega), r1 i (by omega), List.getD_eq_getElem?_getD, List.getD_eq_getElem?_getD, List.getElem?_append_left hi], fun j hj => by
                rw [e1]
                by_cases e : j = 0
                · subst e; rw [Nat.add_zero, pk_us]; rfl
                · rw [pk_un (by omega), show A.length + 1 + j = (A ++ [z]).length + 1 + (j - 1) by rw [e1]; omega, r2 (j - 1) (by simp only [List.length_cons] at hj; omega), List.getD_eq_getElem?_getD, List.getD_eq_getElem?_getD, show j = (j - 1) + 1 by omega, List.getElem?_cons_succ]
                  rfl, fun i hi => by rw [pk_un (by omega)]; exact r3 i hi⟩ (fun b hb => by
                rcases List.mem_cons.mp hb with e | hb
                · subst e; omega
                · exact hB b hb)
            refine ⟨g', l', o1, o2, o3, q_Cables_sort_0_12 (nI c) (nI (A ++ [z]).length) (Nat.le_refl _) (Nat.le_refl _) ⟨fun h => absurd h hpos, fun _ => ⟨?_, ?_, ?_, fun h => absurd h ?_, fun _ => ⟨?_, ?_⟩⟩⟩⟩
            · rw [hsub]; exact vp_in_nI (by omega) (by omega)
            · rw [rd1]; exact vp_in_nI (by omega) (by omega)
            · exact vp_in_nI (by omega) (by omega)
            · rw [rd2, rd3]; exact nI_ge (by omega) (by omega)
            · exact vp_in_nI (by omega) (by omega)
            · have hm1 : nI (A ++ [z]).length + (-1) = nI A.length := by rw [i32_addm1, hsub]
              rw [rd1, hm1, ab_up_row, ab_row_row, ab_row_eq, ca1]
              exact o4
      obtain ⟨g', l', o1, o2, o3, o4⟩ := inner [] l g (by simp) ⟨fun i hi => hg i (by omega), fun j hj => absurd hj (Nat.not_lt_zero j), fun i hi => hgo i (by omega)⟩ (fun b hb => by cases hb)
      refine ⟨g', l', o1, o2, o3, q_Cables_sort_0_2 (nI c) (Nat.le_refl _) (Nat.le_refl _) ⟨fun h => absurd h ?_, fun _ => ?_⟩⟩
      · rw [ab_row_ne (by decide), hN]
        exact nI_ge (by omega) (by omega)
      · rw [hlen] at o4
        exact o4
  obtain ⟨g', l', o1, o2, o3, o4⟩ := outer N 0 (I kx_now_cables_order) [] (by omega) ⟨List.Pairwise.nil, fun k => ⟨fun h => (by cases h), fun h => absurd h (Nat.not_lt_zero k)⟩⟩ (fun i hi => absurd hi (Nat.not_lt_zero i)) (fun i _ => rfl)
  refine ⟨g', l', o1, o2, o3, ab_C_of (by decide) rfl (Nat.le_of_ble_eq_true rfl) hT ?_⟩
  refine q_Cables_sort_0_0 (Nat.le_refl _) (Nat.le_refl _) ?_
  rw [ab_row_id] at o4
  exact o4
theorem s1_ok {w : ab_Wd} {d n nc ns : Nat} {I : Nat → Nat → Int32} {L : Nat → Nat → Int64} (hT : w.1.stackTraces = false) {N : Nat} {pr : Nat → Nat} (hN : I kx_trial 1 = nI N) (h24 : N ≤ 24) (hpr : ∀ k, k < N → I kx_trial_price k = nI (pr k) ∧ pr k ≤ 999) :
    ∃ (g : Nat → Int32) (l : List Nat), od pr N l ∧ (∀ i, i < N → g i = nI (l.getD i 0)) ∧ (∀ i, N ≤ i → g i = I kx_trial_order i) ∧ ab_U w d mt_Cables_sort [.ref kx_trial] I L n nc ns (ab_row I kx_trial_order g) := by
  have outer : ∀ k c (g : Nat → Int32) (l : List Nat), c + k = N → od pr c l → (∀ i, i < c → g i = nI (l.getD i 0)) → (∀ i, c ≤ i → g i = I kx_trial_order i) →
      ∃ (g' : Nat → Int32) (l' : List Nat), od pr N l' ∧ (∀ i, i < N → g' i = nI (l'.getD i 0)) ∧ (∀ i, N ≤ i → g' i = I kx_trial_order i) ∧ ab_E w d mt_Cables_sort 2 [.ref kx_trial, .int (nI c), .null] [] (ab_row I kx_trial_order g, L, ab_RR, n, nc, ns) (.inl none, (ab_row I kx_trial_order g', L, ab_RR, n, nc, ns)) := by
    intro k
    induction k with
    | zero =>
      intro c g l hc ho hg hgo
      have e : c = N := by omega
      subst e
      refine ⟨g, l, ho, hg, hgo, q_Cables_sort_1_2 (nI c) (Nat.le_refl _) (Nat.le_refl _) ⟨fun _ => rfl, fun h => absurd ?_ h⟩⟩
      rw [ab_row_ne (by decide), hN]
      exact nI_le (Nat.le_refl _) (by omega)
    | succ k ih =>
      intro c g l hc ho hg hgo
      have hlen := od_len ho
      have cc := nI_clamp (n := c) (by omega)
      have hpc := hpr c (by omega)
      have inner : ∀ (B A : List Nat) (r : Nat → Int32), l = A ++ B → so_row (I kx_trial_order) r c A B → (∀ b ∈ B, pr c < pr b) →
          ∃ (g' : Nat → Int32) (l' : List Nat), od pr N l' ∧ (∀ i, i < N → g' i = nI (l'.getD i 0)) ∧ (∀ i, N ≤ i → g' i = I kx_trial_order i) ∧ ab_E w d mt_Cables_sort 12 [.ref kx_trial, .int (nI c), .int (nI A.length)] [] (ab_row I kx_trial_order r, L, ab_RR, n, nc, ns) (.inl none, (ab_row I kx_trial_order g', L, ab_RR, n, nc, ns)) := by
        -- the end: the place is found
        have place : ∀ (A B : List Nat) (r : Nat → Int32), l = A ++ B → so_row (I kx_trial_order) r c A B → (∀ b ∈ B, pr c < pr b) → (A = [] ∨ ∃ A' z, A = A' ++ [z] ∧ pr z ≤ pr c) →
            ∃ (g' : Nat → Int32) (l' : List Nat), od pr N l' ∧ (∀ i, i < N → g' i = nI (l'.getD i 0)) ∧ (∀ i, N ≤ i → g' i = I kx_trial_order i) ∧ ab_E w d mt_Cables_sort 58 [.ref kx_trial, .int (nI c), .int (nI A.length)] [] (ab_row I kx_trial_order r, L, ab_RR, n, nc, ns) (.inl none, (ab_row I kx_trial_order g', L, ab_RR, n, nc, ns)) := by
          intro A B r hl hr hB hA
          rw [hl, List.length_append] at hlen
          have ho2 := ho
          rw [hl] at ho2
          have ca := nI_clamp (n := A.length) (by omega)
          obtain ⟨r1, r2, r3⟩ := hr
          obtain ⟨g', l', o1, o2, o3, o4⟩ := ih (c + 1) (upd r A.length (nI c)) (A ++ c :: B) (by omega) (od_ins ho2 hB hA) (fun i hi => by
            rw [List.getD_eq_getElem?_getD]
            by_cases e : i = A.length
            · subst e; rw [pk_us, List.getElem?_append_right (Nat.le_refl _)]; simp
            · rw [pk_un e]
              by_cases g : i < A.length
              · rw [List.getElem?_append_left g, ← List.getD_eq_getElem?_getD]; exact r1 i g
              · have e2 : i = A.length + 1 + (i - A.length - 1) := by omega
                rw [List.getElem?_append_right (by omega), show i - A.length = (i - A.length - 1) + 1 by omega, List.getElem?_cons_succ, ← List.getD_eq_getElem?_getD]
                have := r2 (i - A.length - 1) (by omega)
                rw [← e2] at this
                exact this) (fun i hi => by rw [pk_un (by omega)]; exact r3 i (by omega))
          refine ⟨g', l', o1, o2, o3, q_Cables_sort_1_58 (nI c) (nI A.length) (Nat.le_refl _) (Nat.le_refl _) ⟨vp_in_nI (by omega) (by omega), ?_⟩⟩
          rw [nI_1, ab_up_row, ab_row_row, ab_row_eq, ca]
          exact o4
        intro B A
        induction A using sn_ind generalizing B with
        | nil =>
          intro r hl hr hB
          obtain ⟨g', l', o1, o2, o3, o4⟩ := place [] B r hl hr hB (Or.inl rfl)
          exact ⟨g', l', o1, o2, o3, q_Cables_sort_1_12 (nI c) (nI 0) (Nat.le_refl _) (Nat.le_refl _) ⟨fun _ => o4, fun h => absurd (by decide) h⟩⟩
        | append_singleton A z ihA =>
          intro r hl hr hB
          have hlen2 := hlen
          rw [hl, List.length_append, List.length_append, List.length_singleton] at hlen2
          have e1 : (A ++ [z]).length = A.length + 1 := by simp
          have hsub : nI (A ++ [z]).length - 1 = nI A.length := by rw [e1]; exact nI_pred _
          have ca := nI_clamp (n := A.length) (by omega)
          have ca1 := nI_clamp (n := (A ++ [z]).length) (by omega)
          have hz : z < c := (ho.2 z).mp (by rw [hl]; simp)
          have cz := nI_clamp (n := z) (by omega)
          have hpz := hpr z (by omega)
          have rz : r A.length = nI z := by rw [hr.1 A.length (by omega), List.getD_eq_getElem?_getD, List.getElem?_append_right (Nat.le_refl _)]; simp
          have hpos : ¬ nI (A ++ [z]).length ≤ 0 := nI_nle (by omega) (by omega)
          have rd1 : (ab_row I kx_trial_order r) kx_trial_order (nI (A ++ [z]).length - 1).toNatClampNeg = nI z := by rw [ab_row_eq, hsub, ca]; exact rz
          have rd2 : (ab_row I kx_trial_order r) kx_trial_price ((ab_row I kx_trial_order r) kx_trial_order (nI (A ++ [z]).length - 1).toNatClampNeg).toNatClampNeg = nI (pr z) := by rw [rd1, ab_row_ne (by decide), cz]; exact hpz.1
          have rd3 : (ab_row I kx_trial_order r) kx_trial_price (nI c).toNatClampNeg = nI (pr c) := by rw [ab_row_ne (by decide), cc]; exact hpc.1
          by_cases hle : pr z ≤ pr c
          · obtain ⟨g', l', o1, o2, o3, o4⟩ := place (A ++ [z]) B r hl hr hB (Or.inr ⟨A, z, rfl, hle⟩)
            refine ⟨g', l', o1, o2, o3, q_Cables_sort_1_12 (nI c) (nI (A ++ [z]).length) (Nat.le_refl _) (Nat.le_refl _) ⟨fun h => absurd h hpos, fun _ => ⟨?_, ?_, ?_, fun _ => o4, fun h => absurd ?_ h⟩⟩⟩
            · rw [hsub]; exact vp_in_nI (by omega) (by omega)
            · rw [rd1]; exact vp_in_nI (by omega) (by omega)
            · exact vp_in_nI (by omega) (by omega)
            · rw [rd2, rd3]; exact nI_le hle (by omega)
          · obtain ⟨r1, r2, r3⟩ := hr
            obtain ⟨g', l', o1, o2, o3, o4⟩ := ihA (z :: B) (upd r (A ++ [z]).length (nI z)) (by rw [hl]; simp) ⟨fun i hi => by
                rw [pk_un (by omega), r1 i (by omega), List.getD_eq_getElem?_getD, List.getD_eq_getElem?_getD, List.getElem?_append_left hi], fun j hj => by
                rw [e1]
                by_cases e : j = 0
                · subst e; rw [Nat.add_zero, pk_us]; rfl
                · rw [pk_un (by omega), show A.length + 1 + j = (A ++ [z]).length + 1 + (j - 1) by rw [e1]; omega, r2 (j - 1) (by simp only [List.length_cons] at hj; omega), List.getD_eq_getElem?_getD, List.getD_eq_getElem?_getD, show j = (j - 1) + 1 by omega, List.getElem?_cons_succ]
                  rfl, fun i hi => by rw [pk_un (by omega)]; exact r3 i hi⟩ (fun b hb => by
                rcases List.mem_cons.mp hb with e | hb
                · subst e; omega
                · exact hB b hb)
            refine ⟨g', l', o1, o2, o3, q_Cables_sort_1_12 (nI c) (nI (A ++ [z]).length) (Nat.le_refl _) (Nat.le_refl _) ⟨fun h => absurd h hpos, fun _ => ⟨?_, ?_, ?_, fun h => absurd h ?_, fun _ => ⟨?_, ?_⟩⟩⟩⟩
            · rw [hsub]; exact vp_in_nI (by omega) (by omega)
            · rw [rd1]; exact vp_in_nI (by omega) (by omega)
            · exact vp_in_nI (by omega) (by omega)
            · rw [rd2, rd3]; exact nI_ge (by omega) (by omega)
            · exact vp_in_nI (by omega) (by omega)
            · have hm1 : nI (A ++ [z]).length + (-1) = nI A.length := by rw [i32_addm1, hsub]
              rw [rd1, hm1, ab_up_row, ab_row_row, ab_row_eq, ca1]
              exact o4
      obtain ⟨g', l', o1, o2, o3, o4⟩ := inner [] l g (by simp) ⟨fun i hi => hg i (by omega), fun j hj => absurd hj (Nat.not_lt_zero j), fun i hi => hgo i (by omega)⟩ (fun b hb => by cases hb)
      refine ⟨g', l', o1, o2, o3, q_Cables_sort_1_2 (nI c) (Nat.le_refl _) (Nat.le_refl _) ⟨fun h => absurd h ?_, fun _ => ?_⟩⟩
      · rw [ab_row_ne (by decide), hN]
        exact nI_ge (by omega) (by omega)
      · rw [hlen] at o4
        exact o4
  obtain ⟨g', l', o1, o2, o3, o4⟩ := outer N 0 (I kx_trial_order) [] (by omega) ⟨List.Pairwise.nil, fun k => ⟨fun h => (by cases h), fun h => absurd h (Nat.not_lt_zero k)⟩⟩ (fun i hi => absurd hi (Nat.not_lt_zero i)) (fun i _ => rfl)
  refine ⟨g', l', o1, o2, o3, ab_C_of (by decide) rfl (Nat.le_of_ble_eq_true rfl) hT ?_⟩
  refine q_Cables_sort_1_0 (Nat.le_refl _) (Nat.le_refl _) ?_
  rw [ab_row_id] at o4
  exact o4
