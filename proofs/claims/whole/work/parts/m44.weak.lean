/-! THE CLASS: ends, hub, loss; WEAK couples -/
theorem cnt_ext {x : Int32} {N : Nat} {q : Nat → Bool} (hN : N ≤ 24) (h : ∀ k, k < 24 → bt x k = (decide (k < N) && q k)) : fa_cnt (fun j => bt x j) 24 = fa_cnt q N := by
  have h1 : ∀ m, N + m ≤ 24 → fa_cnt (fun j => bt x j) (N + m) = fa_cnt q N := by
    intro m
    induction m with
    | zero =>
      intro hm
      exact fa_cnt_cong (fun k hk => by rw [h k (by omega), decide_eq_true (show k < N by omega), Bool.true_and])
    | succ m ih =>
      intro hm
      rw [← Nat.add_assoc, fa_cnt_no (p := fun j => bt x j) (by rw [h (N + m) (by omega), decide_eq_false (by omega)]; rfl)]
      exact ih (by omega)
  have := h1 (24 - N) (by omega)
  rwa [show N + (24 - N) = 24 by omega] at this
section KWK
variable {w : ab_Wd} {d n nc ns : Nat} {I : Nat → Nat → Int32} {L : Nat → Nat → Int64}
variable {S N : Nat} {sd : Nat → Bool} {e1 e2 pr fm : Nat → Nat} {l : List Nat}
theorem k_endingAt (hT : w.1.stackTraces = false) (hc : kC I S N sd e1 e2 pr fm l) {s : Nat} (hs : s < S) : ∃ r, (∀ k, k < 32 → bt r k = (decide (k < N) && enB e1 e2 s k)) ∧ ab_P w d mt_Cables_endingAt [.ref kx_now_cables, .int (nI s)] I L n nc ns r := by
  obtain ⟨⟨p1, p2, p3, p4, p5, p6, p7, p8⟩, -⟩ := hc
  refine ⟨_, fun k hk => ?_, c_endingAt (w := w) (d := d) (n := n) (nc := nc) (ns := ns) (L := L) hT p2 p4 (nI s)⟩
  rw [ab_mask_bt _ _ (by omega) k hk]
  by_cases h : k < N
  · rw [decide_eq_true h, Bool.true_and, Bool.true_and]
    obtain ⟨q1, q2, q3, q4, q5, q6⟩ := p8 k h
    unfold enB
    rw [q1, q2]
    have a1 : nI (e1 k) = nI s ↔ e1 k = s := nI_eq (by omega) (by omega)
    have a2 : nI (e2 k) = nI s ↔ e2 k = s := nI_eq (by omega) (by omega)
    simp [a1, a2]
  · rw [decide_eq_false h]; rfl
theorem k_endsAt (hT : w.1.stackTraces = false) (hq : kQ I S N sd e1 e2 pr fm l) {s : Nat} (hs : s < S) : ab_P w (d + 1) mt_K_endsAt [.ref kx, .int (nI s)] I L n nc ns (nI (dgr e1 e2 N (fun k => decide (k ∈ net e1 e2 sd l)) s)) := by
  obtain ⟨r, r1, r2⟩ := k_endingAt (w := w) (d := d) (n := n) (nc := nc) (ns := ns) (L := L) hT hq.1 hs
  have p4 := hq.1.1.2.2.2.1
  have hb : ∀ k, k < 32 → bt ((I kx_forest 2) &&& r) k = (decide (k < N) && (decide (k ∈ net e1 e2 sd l) && (decide (e1 k = s) || decide (e2 k = s)))) := fun k hk => by
    rw [b_and, kq_bits hq hk, r1 k hk]
    unfold enB
    cases decide (k < N) <;> cases decide (k ∈ net e1 e2 sd l) <;> simp
  have bc := z_bitCount (w := w) (d := d) (n := n) (nc := nc) (ns := ns) (I := I) (L := L) hT (x := (I kx_forest 2) &&& r) (fun t h1 h2 => by rw [hb t h2, decide_eq_false (by omega)]; rfl)
  rw [cnt_ext (q := fun k => decide (k ∈ net e1 e2 sd l) && (decide (e1 k = s) || decide (e2 k = s))) p4 (fun k hk => hb k (by omega))] at bc
  refine ab_C_of (by decide) rfl (Nat.le_of_ble_eq_true rfl) hT ?_
  refine r_K_endsAt_0 hT _ (Nat.le_refl _) (Nat.le_refl _) ?_
  exact ⟨r, r2, _, bc, rfl⟩
theorem k_hub (hT : w.1.stackTraces = false) (hq : kQ I S N sd e1 e2 pr fm l) : ab_P w (d + 2) mt_K_hub [.ref kx] I L n nc ns (nI (hbf (dgr e1 e2 N (fun k => decide (k ∈ net e1 e2 sd l))) S)) := by
  have p1 := hq.1.1.1
  have p3 := hq.1.1.2.2.1
  have p4 := hq.1.1.2.2.2.1
  have hS2 := hq.1.2.2.1
  have ends := fun {s : Nat} (hs : s < S) => k_endsAt (w := w) (d := d) (n := n) (nc := nc) (ns := ns) (L := L) hT hq hs
  generalize hg : dgr e1 e2 N (fun k => decide (k ∈ net e1 e2 sd l)) = g at *
  have hgN : ∀ s, g s ≤ 24 := fun s => by
    rw [← hg]
    have := fa_cnt_le (fun k => (fun k => decide (k ∈ net e1 e2 sd l)) k && (decide (e1 k = s) || decide (e2 k = s))) N
    unfold dgr; omega
  have z1 : hbf g 1 = 0 := by
    rw [hbf, hbf]; split <;> rfl
  refine ab_C_of (by decide) rfl (Nat.le_of_ble_eq_true rfl) hT ?_
  refine r_K_hub_0 hT (Nat.le_refl _) (Nat.le_refl _) ?_
  refine ⟨_, ends (s := 0) (by omega), ?_⟩
  have := up_ind (N := S) (E := fun i => 1 ≤ i → ab_E w ((d + 1) + 1) mt_K_hub 10 [.ref kx, .int (nI (hbf g i)), .int (nI (g (hbf g i))), .int (nI i), .null] [] (I, L, ab_RR, n, nc, ns) (.inl (some (.int (nI (hbf g S)))), (I, L, ab_RR, n, nc, ns))) ?_ ?_ 1 (by omega) (Nat.le_refl _)
  · rw [z1] at this; exact this
  · intro _
    refine r_K_hub_10 hT _ _ _ (Nat.le_refl _) (Nat.le_refl _) ?_
    refine bb_t ?_ rfl
    rw [p1]; exact nI_le (Nat.le_refl _) (by omega)
  · intro i hi nx hi1
    have nx := nx (by omega)
    have hlt := hbf_lt g i (by omega)
    have l1 := hgN i
    have l2 := hgN (hbf g i)
    refine r_K_hub_10 hT _ _ _ (Nat.le_refl _) (Nat.le_refl _) ?_
    refine bb_f (by rw [p1]; exact nI_ge hi (by omega)) ⟨_, ends hi, ?_⟩
    rw [nI_leI (by omega) (by omega), nI_1]
    rw [hbf] at nx
    refine ⟨fun h => ?_, fun h => ?_⟩
    · rw [if_neg (by omega)] at nx; exact nx
    · rw [if_pos (by omega)] at nx; exact nx
theorem kq_hw (hq : kC I S N sd e1 e2 pr fm l) : ∀ k, k < N → e1 k < S ∧ e2 k < S := fun k hk => ⟨(hq.1.2.2.2.2.2.2.2 k hk).2.2.2.1, (hq.1.2.2.2.2.2.2.2 k hk).2.2.2.2.1⟩
theorem kq_hp (hq : kC I S N sd e1 e2 pr fm l) : ∀ q, q < N → 1 ≤ pr q ∧ pr q ≤ 999 := fun k hk => ⟨(hq.2.2.2.2.2 k hk).2.2.1, (hq.1.2.2.2.2.2.2.2 k hk).2.2.2.2.2⟩
theorem kq_ne (hq : kC I S N sd e1 e2 pr fm l) : ∀ k, k < N → e1 k ≠ e2 k := fun k hk => (hq.2.2.2.2.2 k hk).2.2.2
theorem nI_diff {a b c e : Nat} (h : a + e = b + c) : nI a - nI b = nI c - nI e := by
  have h1 : nI a + nI e = nI b + nI c := by rw [nI_add, nI_add, h]
  generalize nI a = x at *
  generalize nI b = y at *
  generalize nI c = z at *
  generalize nI e = u at *
  grind
theorem k_lossOf (hT : w.1.stackTraces = false) (hq : kQ I S N sd e1 e2 pr fm l) {k : Nat} (hk : k < N) : (sd k = true → ab_P w (d + 5) mt_K_lossOf [.ref kx, .int (nI k)] I L n nc ns (ls_v pr (net e1 e2 sd l) (net e1 e2 (fun x => sd x && !decide (x = k)) l))) ∧ (¬ sd k = true → ab_P w (d + 5) mt_K_lossOf [.ref kx, .int (nI k)] I L n nc ns (-1)) := by
  have p4 := hq.1.1.2.2.2.1
  have hsk := hq.1.2.2.2.1 k (by omega)
  have hb := kq_bits hq (k := k) (by omega)
  have q3 := (hq.1.1.2.2.2.2.2.2.2 k hk).2.2.1
  obtain ⟨r, r1, r2⟩ := k_rivalOf (w := w) (d := d + 1) (n := n) (nc := nc) (ns := ns) (L := L) hT hq hk
  constructor
  · intro hs
    by_cases hn : k ∈ net e1 e2 sd l
    · obtain ⟨o, o1, o2, o3⟩ := pq_in hq hn r1
      obtain ⟨m1, m2, m3⟩ := rem_one (S := S) hq.1.2.1 (kq_hw hq.1) (kq_hp hq.1) hk hs o3
      cases o with
      | none =>
        have h1 := m2 hn rfl
        have e : ls_v pr (net e1 e2 sd l) (net e1 e2 (fun x => sd x && !decide (x = k)) l) = -1 := by
          unfold ls_v; rw [if_pos (by omega)]
        rw [e]
        refine ab_C_of (by decide) rfl (Nat.le_of_ble_eq_true rfl) hT ?_
        refine r_K_lossOf_0 hT _ (Nat.le_refl _) (Nat.le_refl _) ?_
        simp (disch := first | omega | decide) only [hsk, hs, hb, hn, decide_true, nl_add1, nl_add2, nl_mul1, nl_mul2, nl_sub1, nl_lt1, nl_lt2, nl_le1, nl_le2, nl_eq1, nl_eq2, nl_m1, nl_m2, nl_inT, nI_add, nI_mul, nI_leI, nI_ltI, nI_eq, nI_clamp, nl_bit, oI_n, oI_s, oI_m1, true_and, and_true, eq_self, Bool.false_eq_true, not_false_eq_true, not_true_eq_false, false_implies, true_implies, implies_true, forall_const, Nat.not_lt_zero, ab_row_eq, ab_row_ne, ab_up_i, ab_up_o, pk_us, pk_un, ab_row_row]
        exact ⟨r, r2, fun h => absurd o1 h⟩
      | some q =>
        have hqN := o2 q rfl
        obtain ⟨h1, h2, h3⟩ := m3 hn q rfl
        have o1' : r = nI q := o1
        subst o1'
        have u3 := (hq.1.1.2.2.2.2.2.2.2 q hqN).2.2.1
        have e : ls_v pr (net e1 e2 sd l) (net e1 e2 (fun x => sd x && !decide (x = k)) l) = nI (pr q) - nI (pr k) := by
          unfold ls_v; rw [if_neg (by omega)]
          exact nI_diff (by omega)
        rw [e]
        refine ab_C_of (by decide) rfl (Nat.le_of_ble_eq_true rfl) hT ?_
        refine r_K_lossOf_0 hT _ (Nat.le_refl _) (Nat.le_refl _) ?_
        simp (disch := first | omega | decide) only [hsk, hs, hb, hn, decide_true, nl_add1, nl_add2, nl_mul1, nl_mul2, nl_sub1, nl_lt1, nl_lt2, nl_le1, nl_le2, nl_eq1, nl_eq2, nl_m1, nl_m2, nl_inT, nI_add, nI_mul, nI_leI, nI_ltI, nI_eq, nI_clamp, nl_bit, oI_n, oI_s, oI_m1, true_and, and_true, eq_self, Bool.false_eq_true, not_false_eq_true, not_true_eq_false, false_implies, true_implies, implies_true, forall_const, Nat.not_lt_zero, ab_row_eq, ab_row_ne, ab_up_i, ab_up_o, pk_us, pk_un, ab_row_row]
        refine ⟨_, r2, fun _ => ⟨vp_in_nI (by omega) (by omega), ?_⟩, fun h => absurd h (nI_m1 (by omega))⟩
        rw [nI_clamp (by omega), u3, q3]
    · obtain ⟨o, o1⟩ := pq_ex (pr := pr) sd k hq.1.2.1 (kq_hw hq.1) (kq_ne hq.1) hk hs
      have h1 := (rem_one (S := S) hq.1.2.1 (kq_hw hq.1) (kq_hp hq.1) hk hs o1).1 hn
      have e : ls_v pr (net e1 e2 sd l) (net e1 e2 (fun x => sd x && !decide (x = k)) l) = 0 := by
        rw [h1]; unfold ls_v; rw [if_neg (by omega), Int32.sub_self]
      rw [e]
      refine ab_C_of (by decide) rfl (Nat.le_of_ble_eq_true rfl) hT ?_
      refine r_K_lossOf_0 hT _ (Nat.le_refl _) (Nat.le_refl _) ?_
      simp (disch := first | omega | decide) only [hsk, hs, hb, hn, decide_false, nl_add1, nl_add2, nl_mul1, nl_mul2, nl_sub1, nl_lt1, nl_lt2, nl_le1, nl_le2, nl_eq1, nl_eq2, nl_m1, nl_m2, nl_inT, nI_add, nI_mul, nI_leI, nI_ltI, nI_eq, nI_clamp, nl_bit, oI_n, oI_s, oI_m1, true_and, and_true, eq_self, Bool.false_eq_true, not_false_eq_true, not_true_eq_false, false_implies, true_implies, implies_true, forall_const, Nat.not_lt_zero, ab_row_eq, ab_row_ne, ab_up_i, ab_up_o, pk_us, pk_un, ab_row_row]
  · intro hs
    have hn : k ∉ net e1 e2 sd l := fun h => hs ((kq_mem hq k).mp h).2.1
    have hr : r = -1 := by
      rcases r1 with ⟨h, -⟩ | ⟨c, -, h, -⟩
      · exact h
      · exact absurd h.2.2.2.1 hn
    subst hr
    refine ab_C_of (by decide) rfl (Nat.le_of_ble_eq_true rfl) hT ?_
    refine r_K_lossOf_0 hT _ (Nat.le_refl _) (Nat.le_refl _) ?_
    simp (disch := first | omega | decide) only [hsk, hs, nl_add1, nl_add2, nl_mul1, nl_mul2, nl_sub1, nl_lt1, nl_lt2, nl_le1, nl_le2, nl_eq1, nl_eq2, nl_m1, nl_m2, nl_inT, nI_add, nI_mul, nI_leI, nI_ltI, nI_eq, nI_clamp, nl_bit, oI_n, oI_s, oI_m1, true_and, and_true, eq_self, Bool.false_eq_true, not_false_eq_true, not_true_eq_false, false_implies, true_implies, implies_true, forall_const, Nat.not_lt_zero, ab_row_eq, ab_row_ne, ab_up_i, ab_up_o, pk_us, pk_un, ab_row_row]
    exact ⟨_, r2, fun h => absurd rfl h⟩
/-- the rings that a cable is on -/
noncomputable def rwB (e1 e2 : Nat → Nat) (S N : Nat) (sd : Nat → Bool) (T : List Nat) (k j : Nat) : Bool := if sd k = true ∧ k ∉ T then decide (j = k) else decide (j < N) && (sd j && !decide (j ∈ T) && (cutb e1 e2 S T k (e1 j) != cutb e1 e2 S T k (e2 j)))
theorem k_ringsWith (hT : w.1.stackTraces = false) (hq : kQ I S N sd e1 e2 pr fm l) {k : Nat} (hk : k < N) : ∃ r, (∀ j, j < 32 → bt r j = rwB e1 e2 S N sd (net e1 e2 sd l) k j) ∧ ab_P w (d + 3) mt_K_ringsWith [.ref kx, .int (nI k)] I L n nc ns r := by
  obtain ⟨p1, p2, p3, p4, p5, p6, p7, p8⟩ := hq.1.1
  obtain ⟨c2, c3, c4, c5, c6⟩ := hq.1.2
  have hsk := c4 k (by omega)
  have hb := kq_bits hq (k := k) (by omega)
  by_cases ho : sd k = true ∧ k ∉ net e1 e2 sd l
  · refine ⟨(1 : Int32) <<< (nI k &&& 31), fun j hj => ?_, ?_⟩
    · rw [ab_sh1 (by omega) hj]; unfold rwB; rw [if_pos ho]
    · have hs := ho.1
      have hn := ho.2
      refine ab_C_of (by decide) rfl (Nat.le_of_ble_eq_true rfl) hT ?_
      refine r_K_ringsWith_0 hT _ (Nat.le_refl _) (Nat.le_refl _) ?_
      simp (disch := first | omega | decide) only [hsk, hs, hb, hn, decide_false, nl_add1, nl_add2, nl_mul1, nl_mul2, nl_sub1, nl_lt1, nl_lt2, nl_le1, nl_le2, nl_eq1, nl_eq2, nl_m1, nl_m2, nl_inT, nI_add, nI_mul, nI_leI, nI_ltI, nI_eq, nI_clamp, nl_bit, oI_n, oI_s, oI_m1, true_and, and_true, eq_self, Bool.false_eq_true, not_false_eq_true, not_true_eq_false, false_implies, true_implies, implies_true, forall_const, Nat.not_lt_zero, ab_row_eq, ab_row_ne, ab_up_i, ab_up_o, pk_us, pk_un, ab_row_row]
  · have hcu := k_cutOf (w := w) (d := d) (n := n) (nc := nc) (ns := ns) (L := L) hT hq hk
    generalize hx : ab_mask S (cutb e1 e2 S (net e1 e2 sd l) k) = x at *
    have hxb : ∀ s, s < S → bt x s = cutb e1 e2 S (net e1 e2 sd l) k s := fun s hs => by
      rw [← hx, ab_mask_bt _ _ (by omega) s (by omega), decide_eq_true hs, Bool.true_and]
    generalize hq0 : (fun j => sd j && !decide (j ∈ net e1 e2 sd l) && (cutb e1 e2 S (net e1 e2 sd l) k (e1 j) != cutb e1 e2 S (net e1 e2 sd l) k (e2 j))) = f
    have loop : ab_E w ((d + 1) + 2) mt_K_ringsWith 23 [.ref kx, .int (nI k), .int x, .int 0, .int 0] [] (I, L, ab_RR, n, nc, ns) (.inl (some (.int (ab_mask N f))), (I, L, ab_RR, n, nc, ns)) := by
      refine up_ind (N := N) (E := fun i => ab_E w ((d + 1) + 2) mt_K_ringsWith 23 [.ref kx, .int (nI k), .int x, .int (ab_mask i f), .int (nI i)] [] (I, L, ab_RR, n, nc, ns) (.inl (some (.int (ab_mask N f))), (I, L, ab_RR, n, nc, ns))) ?_ ?_ 0 (Nat.zero_le _)
      · refine r_K_ringsWith_23 hT _ _ _ _ (Nat.le_refl _) (Nat.le_refl _) ?_
        refine bb_t ?_ rfl
        rw [p2]; exact nI_le (Nat.le_refl _) (by omega)
      · intro i hi nx
        have hiN : ¬ N ≤ i := by omega
        have hsi := c4 i (by omega)
        have hbi := kq_bits hq (k := i) (by omega)
        obtain ⟨q1, q2, q3, q4, q5, q6⟩ := p8 i hi
        have b1 := hxb _ q4
        have b2 := hxb _ q5
        by_cases hs : sd i = true
        · by_cases hn : i ∈ net e1 e2 sd l
          · rw [← ab_mask_not (p := f) (i := i) (by rw [← hq0]; simp [hn])] at nx
            refine r_K_ringsWith_23 hT _ _ _ _ (Nat.le_refl _) (Nat.le_refl _) ?_
            simp (disch := first | omega | decide) only [p2, hiN, hsi, hs, hbi, hn, decide_true, nl_add1, nl_add2, nl_mul1, nl_mul2, nl_sub1, nl_lt1, nl_lt2, nl_le1, nl_le2, nl_eq1, nl_eq2, nl_m1, nl_m2, nl_inT, nI_add, nI_mul, nI_leI, nI_ltI, nI_eq, nI_clamp, nl_bit, oI_n, oI_s, oI_m1, true_and, and_true, eq_self, Bool.false_eq_true, not_false_eq_true, not_true_eq_false, false_implies, true_implies, implies_true, forall_const, Nat.not_lt_zero, ab_row_eq, ab_row_ne, ab_up_i, ab_up_o, pk_us, pk_un, ab_row_row]
            exact nx
          · refine r_K_ringsWith_23 hT _ _ _ _ (Nat.le_refl _) (Nat.le_refl _) ?_
            simp (disch := first | omega | decide) only [p2, hiN, hsi, hs, hbi, hn, decide_false, q1, q2, nl_cross, b1, b2, nl_add1, nl_add2, nl_mul1, nl_mul2, nl_sub1, nl_lt1, nl_lt2, nl_le1, nl_le2, nl_eq1, nl_eq2, nl_m1, nl_m2, nl_inT, nI_add, nI_mul, nI_leI, nI_ltI, nI_eq, nI_clamp, nl_bit, oI_n, oI_s, oI_m1, true_and, and_true, eq_self, Bool.false_eq_true, not_false_eq_true, not_true_eq_false, false_implies, true_implies, implies_true, forall_const, Nat.not_lt_zero, ab_row_eq, ab_row_ne, ab_up_i, ab_up_o, pk_us, pk_un, ab_row_row]
            refine ⟨fun e => ?_, fun e => ?_⟩
            · rw [ab_mask_not (p := f) (i := i) (by rw [← hq0]; simp [e])]; exact nx
            · rw [ab_mask_put (p := f) (i := i) (by omega) (by rw [← hq0]; simp [hs, hn, e])]; exact nx
        · rw [← ab_mask_not (p := f) (i := i) (by rw [← hq0]; simp [hs])] at nx
          refine r_K_ringsWith_23 hT _ _ _ _ (Nat.le_refl _) (Nat.le_refl _) ?_
          simp (disch := first | omega | decide) only [p2, hiN, hsi, hs, nl_add1, nl_add2, nl_mul1, nl_mul2, nl_sub1, nl_lt1, nl_lt2, nl_le1, nl_le2, nl_eq1, nl_eq2, nl_m1, nl_m2, nl_inT, nI_add, nI_mul, nI_leI, nI_ltI, nI_eq, nI_clamp, nl_bit, oI_n, oI_s, oI_m1, true_and, and_true, eq_self, Bool.false_eq_true, not_false_eq_true, not_true_eq_false, false_implies, true_implies, implies_true, forall_const, Nat.not_lt_zero, ab_row_eq, ab_row_ne, ab_up_i, ab_up_o, pk_us, pk_un, ab_row_row]
          exact nx
    refine ⟨ab_mask N f, fun j hj => ?_, ?_⟩
    · rw [ab_mask_bt _ _ (by omega) j hj]
      unfold rwB
      rw [if_neg ho, ← hq0]
    · by_cases hs : sd k = true
      · have hn : k ∈ net e1 e2 sd l := Classical.byContradiction fun h => ho ⟨hs, h⟩
        refine ab_C_of (by decide) rfl (Nat.le_of_ble_eq_true rfl) hT ?_
        refine r_K_ringsWith_0 hT _ (Nat.le_refl _) (Nat.le_refl _) ?_
        simp (disch := first | omega | decide) only [hsk, hs, hb, hn, decide_true, nl_add1, nl_add2, nl_mul1, nl_mul2, nl_sub1, nl_lt1, nl_lt2, nl_le1, nl_le2, nl_eq1, nl_eq2, nl_m1, nl_m2, nl_inT, nI_add, nI_mul, nI_leI, nI_ltI, nI_eq, nI_clamp, nl_bit, oI_n, oI_s, oI_m1, true_and, and_true, eq_self, Bool.false_eq_true, not_false_eq_true, not_true_eq_false, false_implies, true_implies, implies_true, forall_const, Nat.not_lt_zero, ab_row_eq, ab_row_ne, ab_up_i, ab_up_o, pk_us, pk_un, ab_row_row]
        exact ⟨x, hcu, loop⟩
      · refine ab_C_of (by decide) rfl (Nat.le_of_ble_eq_true rfl) hT ?_
        refine r_K_ringsWith_0 hT _ (Nat.le_refl _) (Nat.le_refl _) ?_
        simp (disch := first | omega | decide) only [hsk, hs, nl_add1, nl_add2, nl_mul1, nl_mul2, nl_sub1, nl_lt1, nl_lt2, nl_le1, nl_le2, nl_eq1, nl_eq2, nl_m1, nl_m2, nl_inT, nI_add, nI_mul, nI_leI, nI_ltI, nI_eq, nI_clamp, nl_bit, oI_n, oI_s, oI_m1, true_and, and_true, eq_self, Bool.false_eq_true, not_false_eq_true, not_true_eq_false, false_implies, true_implies, implies_true, forall_const, Nat.not_lt_zero, ab_row_eq, ab_row_ne, ab_up_i, ab_up_o, pk_us, pk_un, ab_row_row]
        exact ⟨x, hcu, loop⟩
/-- WEAK couples, by the rings -/
theorem weak_iff (hq : kQ I S N sd e1 e2 pr fm l) {a b : Nat} (ha : a < N) (hb : b < N) (hab : a ≠ b) : wkB e1 e2 l sd a b = true ↔ ((∃ j, rwB e1 e2 S N sd (net e1 e2 sd l) a j = true) ∧ ∀ j, rwB e1 e2 S N sd (net e1 e2 sd l) a j = rwB e1 e2 S N sd (net e1 e2 sd l) b j) := by
  have hl := hq.1.2.1
  have hw := kq_hw hq.1
  have hf := kq_fo hq
  have hT : ∀ k, k ∈ net e1 e2 sd l → k < N ∧ sd k = true := fun k hk => ⟨((kq_mem hq k).mp hk).1, ((kq_mem hq k).mp hk).2.1⟩
  have hsp := fun x y => net_span (S := S) hl hw sd x y
  generalize net e1 e2 sd l = T at *
  have cb : ∀ k, k ∈ T → ∀ s, s < S → (cutb e1 e2 S T k s = true ↔ cn e1 e2 (fun j => j ∈ T ∧ j ≠ k) (e1 k) s) := fun k hk s hs => by
    unfold cutb
    rw [Bool.and_eq_true, Bool.and_eq_true, decide_eq_true_iff, decide_eq_true_iff, cnB_iff]
    exact ⟨fun h => h.2, fun h => ⟨⟨hk, hs⟩, h⟩⟩
  have cut0 : ∀ k, k ∈ T → ¬ cn e1 e2 (fun j => j ∈ T ∧ j ≠ k) (e1 k) (e2 k) := fun k hk h => fo_cut hf (List.mem_reverse.mpr hk) (cn_mono (fun j hj => ⟨List.mem_reverse.mpr hj.1, hj.2⟩) h)
  -- a cable that doesn't cross the cut is joined without k
  have noncross : ∀ k, k ∈ T → ∀ {u v}, u < S → v < S → cn e1 e2 (fun j => j ∈ T) u v → (cutb e1 e2 S T k u = cutb e1 e2 S T k v) → cn e1 e2 (fun j => j ∈ T ∧ j ≠ k) u v := fun k hk {u v} hu hv h he => by
    have h2 : cn e1 e2 (fun j => (j ∈ T ∧ j ≠ k) ∨ j = k) u v := cn_mono (fun j hj => by
      by_cases e : j = k
      · exact Or.inr e
      · exact Or.inl ⟨hj, e⟩) h
    rw [cn_add] at h2
    have hiff : (cn e1 e2 (fun j => j ∈ T ∧ j ≠ k) (e1 k) u ↔ cn e1 e2 (fun j => j ∈ T ∧ j ≠ k) (e1 k) v) := by rw [← cb k hk u hu, ← cb k hk v hv, he]
    rcases h2 with h2 | ⟨g1, g2⟩ | ⟨g1, g2⟩
    · exact h2
    · have h3 := hiff.mp (cn_symm g1)
      exact absurd (cn_trans h3 (cn_symm g2)) (cut0 k hk)
    · have h3 := hiff.mpr g2
      exact absurd (cn_trans h3 g1) (cut0 k hk)
  have tedge : ∀ k, k ∈ T → ∀ j, j ∈ T → j ≠ k → cutb e1 e2 S T k (e1 j) = cutb e1 e2 S T k (e2 j) := fun k hk j hj hjk => by
    obtain ⟨b1, b2⟩ := hw j (hT j hj).1
    refine Bool.eq_iff_iff.mpr ?_
    rw [cb k hk _ b1, cb k hk _ b2]
    have he : cn e1 e2 (fun j => j ∈ T ∧ j ≠ k) (e1 j) (e2 j) := cn_edge ⟨hj, hjk⟩
    exact ⟨fun h => cn_trans h he, fun h => cn_trans h (cn_symm he)⟩
  have ends : ∀ k, k ∈ T → cutb e1 e2 S T k (e1 k) = true ∧ cutb e1 e2 S T k (e2 k) = false := fun k hk => by
    obtain ⟨b1, b2⟩ := hw k (hT k hk).1
    refine ⟨(cb k hk _ b1).mpr cn_refl, ?_⟩
    cases h : cutb e1 e2 S T k (e2 k) with
    | false => rfl
    | true => exact absurd ((cb k hk _ b2).mp h) (cut0 k hk)
  have rwO : ∀ k, sd k = true → k ∉ T → ∀ j, (rwB e1 e2 S N sd T k j = true ↔ j = k) := fun k h1 h2 j => by unfold rwB; rw [if_pos ⟨h1, h2⟩, decide_eq_true_iff]
  have rwI : ∀ k, k ∈ T → ∀ j, (rwB e1 e2 S N sd T k j = true ↔ (j < N ∧ sd j = true ∧ j ∉ T ∧ cutb e1 e2 S T k (e1 j) ≠ cutb e1 e2 S T k (e2 j))) := fun k h2 j => by
    unfold rwB; rw [if_neg (fun h => h.2 h2)]
    simp [and_assoc]
  have tj : ∀ j, j < N → sd j = true → cn e1 e2 (fun j => j ∈ T) (e1 j) (e2 j) := fun j h1 h2 => (hsp _ _).mpr (cn_edge ⟨h1, h2⟩)
  -- whether a cable is in a ring
  have bridge : ∀ k, k < N → sd k = true → ((∃ j, rwB e1 e2 S N sd T k j = true) ↔ cn e1 e2 (fun j => j < N ∧ sd j = true ∧ j ≠ k) (e1 k) (e2 k)) := fun k hk hs => by
    by_cases hkT : k ∈ T
    · constructor
      · rintro ⟨j, hj⟩
        obtain ⟨j1, j2, j3, j4⟩ := (rwI k hkT j).mp hj
        have up : ∀ {u v}, cn e1 e2 (fun j => j ∈ T ∧ j ≠ k) u v → cn e1 e2 (fun j => j < N ∧ sd j = true ∧ j ≠ k) u v := fun h => cn_mono (fun c hc => ⟨(hT c hc.1).1, (hT c hc.1).2, hc.2⟩) h
        have h2 : cn e1 e2 (fun j => (j ∈ T ∧ j ≠ k) ∨ j = k) (e1 j) (e2 j) := cn_mono (fun c hc => by
          by_cases e : c = k
          · exact Or.inr e
          · exact Or.inl ⟨hc, e⟩) (tj j j1 j2)
        obtain ⟨b1, b2⟩ := hw j j1
        have he : cn e1 e2 (fun j => j < N ∧ sd j = true ∧ j ≠ k) (e1 j) (e2 j) := cn_edge ⟨j1, j2, fun e => j3 (e ▸ hkT)⟩
        rw [cn_add] at h2
        rcases h2 with h2 | ⟨g1, g2⟩ | ⟨g1, g2⟩
        · exfalso
          refine j4 (Bool.eq_iff_iff.mpr ?_)
          rw [cb k hkT _ b1, cb k hkT _ b2]
          exact ⟨fun h => cn_trans h h2, fun h => cn_trans h (cn_symm h2)⟩
        · exact cn_trans (cn_trans (up (cn_symm g1)) he) (up (cn_symm g2))
        · exact cn_trans (cn_trans (up g2) (cn_symm he)) (up g1)
      · intro h
        refine Classical.byContradiction fun hno => ?_
        have hinv := h (fun z => z < S → cutb e1 e2 S T k z = true) (fun c hc => by
          obtain ⟨b1, b2⟩ := hw c hc.1
          have : cutb e1 e2 S T k (e1 c) = cutb e1 e2 S T k (e2 c) := by
            by_cases hcT : c ∈ T
            · exact tedge k hkT c hcT hc.2.2
            · exact Classical.byContradiction fun g => hno ⟨c, (rwI k hkT c).mpr ⟨hc.1, hc.2.1, hcT, g⟩⟩
          rw [this]
          exact ⟨fun g _ => g b1, fun g _ => g b2⟩) (fun _ => (ends k hkT).1) (hw k hk).2
        rw [(ends k hkT).2] at hinv; cases hinv
    · refine ⟨fun _ => ?_, fun _ => ⟨k, (rwO k hs hkT k).mpr rfl⟩⟩
      exact cn_mono (fun c hc => ⟨(hT c hc).1, (hT c hc).2, fun e => hkT (e ▸ hc)⟩) (tj k hk hs)
  have ap1 : ∀ k, k < N → sd k = true → (apB e1 e2 l sd (fun x => decide (x = k)) = true ↔ ¬ cn e1 e2 (fun j => j < N ∧ sd j = true ∧ j ≠ k) (e1 k) (e2 k)) := fun k hk hs => by
    unfold apB
    rw [decide_eq_true_iff, ap_iff (S := S) hl hw (fun j hj => by simp at hj; exact hj.1)]
    have e : ∀ c, (c < N ∧ (sd c && !decide (c = k)) = true) ↔ (c < N ∧ sd c = true ∧ c ≠ k) := fun c => by simp
    constructor
    · rintro ⟨c, c1, c2, c3⟩
      rw [cn_congr e] at c3
      by_cases ec : c = k
      · rw [ec] at c3; exact c3
      · exact absurd (cn_edge ⟨c1, c2, ec⟩) c3
    · intro h
      exact ⟨k, hk, hs, by rw [cn_congr e]; exact h⟩
  have ap2 : sd a = true → sd b = true → (apB e1 e2 l sd (fun x => decide (x = a) || decide (x = b)) = true ↔ (¬ cn e1 e2 (fun j => j < N ∧ sd j = true ∧ j ≠ a ∧ j ≠ b) (e1 a) (e2 a) ∨ ¬ cn e1 e2 (fun j => j < N ∧ sd j = true ∧ j ≠ a ∧ j ≠ b) (e1 b) (e2 b))) := fun sa sb => by
    unfold apB
    rw [decide_eq_true_iff, ap_iff (S := S) hl hw (fun j hj => by simp at hj; exact hj.1)]
    have e : ∀ c, (c < N ∧ (sd c && !(decide (c = a) || decide (c = b))) = true) ↔ (c < N ∧ sd c = true ∧ c ≠ a ∧ c ≠ b) := fun c => by simp
    constructor
    · rintro ⟨c, c1, c2, c3⟩
      rw [cn_congr e] at c3
      by_cases ec : c = a
      · rw [ec] at c3; exact Or.inl c3
      · by_cases ec' : c = b
        · rw [ec'] at c3; exact Or.inr c3
        · exact absurd (cn_edge ⟨c1, c2, ec, ec'⟩) c3
    · rintro (h | h)
      · exact ⟨a, ha, sa, by rw [cn_congr e]; exact h⟩
      · exact ⟨b, hb, sb, by rw [cn_congr e]; exact h⟩
  -- broken cables are on no ring
  have brk : ∀ k, ¬ sd k = true → ∀ j, rwB e1 e2 S N sd T k j = false := fun k hs j => by
    have hkT : k ∉ T := fun h => hs (hT k h).2
    unfold rwB
    rw [if_neg (fun h => hs h.1)]
    unfold cutb
    simp [hkT]
  by_cases sa : sd a = true
  · by_cases sb : sd b = true
    · have hwk : wkB e1 e2 l sd a b = true ↔ ((∃ j, rwB e1 e2 S N sd T a j = true) ∧ (∃ j, rwB e1 e2 S N sd T b j = true) ∧ apB e1 e2 l sd (fun x => decide (x = a) || decide (x = b)) = true) := by
        rw [bridge a ha sa, bridge b hb sb]
        unfold wkB
        have p1 := ap1 a ha sa
        have p2 := ap1 b hb sb
        simp only [Bool.and_eq_true, Bool.not_eq_true', sa, sb, true_and]
        have q1 : apB e1 e2 l sd (fun k => decide (k = a)) = false ↔ cn e1 e2 (fun j => j < N ∧ sd j = true ∧ j ≠ a) (e1 a) (e2 a) := by
          rw [← Bool.not_eq_true, p1]; exact Classical.not_not
        have q2 : apB e1 e2 l sd (fun k => decide (k = b)) = false ↔ cn e1 e2 (fun j => j < N ∧ sd j = true ∧ j ≠ b) (e1 b) (e2 b) := by
          rw [← Bool.not_eq_true, p2]; exact Classical.not_not
        rw [q1, q2]
      rw [hwk, ap2 sa sb]
      have up : ∀ {a b : Nat} {u v}, cn e1 e2 (fun j => j ∈ T ∧ j ≠ a ∧ j ≠ b) u v → cn e1 e2 (fun j => j < N ∧ sd j = true ∧ j ≠ a ∧ j ≠ b) u v := fun h => cn_mono (fun c hc => ⟨(hT c hc.1).1, (hT c hc.1).2, hc.2⟩) h
      -- one that a is on and b isn't: the ends of a stay joined
      have stay : ∀ a b, a < N → b < N → a ≠ b → sd a = true → sd b = true → ∀ j, rwB e1 e2 S N sd T a j = true → rwB e1 e2 S N sd T b j = false → cn e1 e2 (fun j => j < N ∧ sd j = true ∧ j ≠ a ∧ j ≠ b) (e1 a) (e2 a) := by
        intro a b ha hb hab sa sb j hja hjb
        by_cases aT : a ∈ T
        · obtain ⟨j1, j2, j3, j4⟩ := (rwI a aT j).mp hja
          obtain ⟨b1, b2⟩ := hw j j1
          have hjb' : j ≠ b := fun e => by
            subst e
            rw [(rwO j sb j3 j).mpr rfl] at hjb; cases hjb
          have hja' : j ≠ a := fun e => j3 (e ▸ aT)
          -- the ends of j are joined in T without b
          have hD : cn e1 e2 (fun c => c ∈ T ∧ c ≠ b) (e1 j) (e2 j) := by
            by_cases bT : b ∈ T
            · refine noncross b bT b1 b2 (tj j j1 j2) (Classical.byContradiction fun g => ?_)
              rw [(rwI b bT j).mpr ⟨j1, j2, j3, g⟩] at hjb; cases hjb
            · exact cn_mono (fun c hc => ⟨hc, fun e => bT (e ▸ hc)⟩) (tj j j1 j2)
          have hD2 : cn e1 e2 (fun c => (c ∈ T ∧ c ≠ a ∧ c ≠ b) ∨ c = a) (e1 j) (e2 j) := cn_mono (fun c hc => by
            by_cases e : c = a
            · exact Or.inr e
            · exact Or.inl ⟨hc.1, e, hc.2⟩) hD
          have he : cn e1 e2 (fun j => j < N ∧ sd j = true ∧ j ≠ a ∧ j ≠ b) (e1 j) (e2 j) := cn_edge ⟨j1, j2, hja', hjb'⟩
          rw [cn_add] at hD2
          rcases hD2 with g | ⟨g1, g2⟩ | ⟨g1, g2⟩
          · exfalso
            have g' : cn e1 e2 (fun c => c ∈ T ∧ c ≠ a) (e1 j) (e2 j) := cn_mono (fun c hc => ⟨hc.1, hc.2.1⟩) g
            refine j4 (Bool.eq_iff_iff.mpr ?_)
            rw [cb a aT _ b1, cb a aT _ b2]
            exact ⟨fun h => cn_trans h g', fun h => cn_trans h (cn_symm g')⟩
          · exact cn_trans (cn_trans (up (cn_symm g1)) he) (up (cn_symm g2))
          · exact cn_trans (cn_trans (up g2) (cn_symm he)) (up g1)
        · have ej := (rwO a sa aT j).mp hja
          subst ej
          obtain ⟨b1, b2⟩ := hw j ha
          have hD : cn e1 e2 (fun c => c ∈ T ∧ c ≠ b) (e1 j) (e2 j) := by
            by_cases bT : b ∈ T
            · refine noncross b bT b1 b2 (tj j ha sa) (Classical.byContradiction fun g => ?_)
              rw [(rwI b bT j).mpr ⟨ha, sa, aT, g⟩] at hjb; cases hjb
            · exact cn_mono (fun c hc => ⟨hc, fun e => bT (e ▸ hc)⟩) (tj j ha sa)
          exact cn_mono (fun c hc => ⟨(hT c hc.1).1, (hT c hc.1).2, fun e => aT (e ▸ hc.1), hc.2⟩) hD
      constructor
      · rintro ⟨ea, eb, hap⟩
        refine ⟨ea, fun j => ?_⟩
        refine Classical.byContradiction fun hne => ?_
        have swapS : ∀ {u v}, cn e1 e2 (fun j => j < N ∧ sd j = true ∧ j ≠ b ∧ j ≠ a) u v → cn e1 e2 (fun j => j < N ∧ sd j = true ∧ j ≠ a ∧ j ≠ b) u v := fun h => cn_mono (fun c hc => ⟨hc.1, hc.2.1, hc.2.2.2, hc.2.2.1⟩) h
        have both : cn e1 e2 (fun j => j < N ∧ sd j = true ∧ j ≠ a ∧ j ≠ b) (e1 a) (e2 a) ∧ cn e1 e2 (fun j => j < N ∧ sd j = true ∧ j ≠ a ∧ j ≠ b) (e1 b) (e2 b) := by
          have red : ∀ a b, cn e1 e2 (fun j => j < N ∧ sd j = true ∧ j ≠ a ∧ j ≠ b) (e1 a) (e2 a) → cn e1 e2 (fun j => j < N ∧ sd j = true ∧ j ≠ b) (e1 b) (e2 b) → cn e1 e2 (fun j => j < N ∧ sd j = true ∧ j ≠ a ∧ j ≠ b) (e1 b) (e2 b) := fun a b h1 h2 => cn_of_all (fun c hc => by
            by_cases e : c = a
            · rw [e]; exact h1
            · exact cn_edge ⟨hc.1, hc.2.1, e, hc.2.2⟩) h2
          cases h1 : rwB e1 e2 S N sd T a j with
          | true =>
            have h2 : rwB e1 e2 S N sd T b j = false := by
              cases h : rwB e1 e2 S N sd T b j with
              | false => rfl
              | true => exact absurd (h1.trans h.symm) hne
            have s1 := stay a b ha hb hab sa sb j h1 h2
            exact ⟨s1, red a b s1 ((bridge b hb sb).mp eb)⟩
          | false =>
            have h2 : rwB e1 e2 S N sd T b j = true := by
              cases h : rwB e1 e2 S N sd T b j with
              | true => rfl
              | false => exact absurd (h1.trans h.symm) hne
            have s1 := stay b a hb ha (fun e => hab e.symm) sb sa j h2 h1
            have s2 := red b a s1 ((bridge a ha sa).mp ea)
            exact ⟨swapS s2, swapS s1⟩
        rcases hap with h | h
        · exact h both.1
        · exact h both.2
      · rintro ⟨⟨j, hj⟩, heq⟩
        refine ⟨⟨j, hj⟩, ⟨j, by rw [← heq]; exact hj⟩, ?_⟩
        by_cases aT : a ∈ T
        · by_cases bT : b ∈ T
          · refine Or.inl (fun h => ?_)
            have hinv := h (fun z => z < S → (cutb e1 e2 S T a z = cutb e1 e2 S T b z ↔ cutb e1 e2 S T a (e1 a) = cutb e1 e2 S T b (e1 a))) (fun c hc => by
              obtain ⟨b1, b2⟩ := hw c hc.1
              have : (cutb e1 e2 S T a (e1 c) = cutb e1 e2 S T b (e1 c)) ↔ (cutb e1 e2 S T a (e2 c) = cutb e1 e2 S T b (e2 c)) := by
                by_cases hcT : c ∈ T
                · rw [tedge a aT c hcT hc.2.2.1, tedge b bT c hcT hc.2.2.2]
                · have h1 := rwI a aT c
                  have h2 := rwI b bT c
                  rw [heq c, h2] at h1
                  have : (cutb e1 e2 S T b (e1 c) ≠ cutb e1 e2 S T b (e2 c)) ↔ (cutb e1 e2 S T a (e1 c) ≠ cutb e1 e2 S T a (e2 c)) := ⟨fun g => (h1.mp ⟨hc.1, hc.2.1, hcT, g⟩).2.2.2, fun g => (h1.mpr ⟨hc.1, hc.2.1, hcT, g⟩).2.2.2⟩
                  cases h3 : cutb e1 e2 S T a (e1 c) <;> cases h4 : cutb e1 e2 S T a (e2 c) <;> cases h5 : cutb e1 e2 S T b (e1 c) <;> cases h6 : cutb e1 e2 S T b (e2 c) <;> simp_all
              exact ⟨fun g _ => this.symm.trans (g b1), fun g _ => this.trans (g b2)⟩) (fun _ => Iff.rfl) (hw a ha).2
            have t1 := tedge b bT a aT hab
            obtain ⟨t2, t3⟩ := ends a aT
            rw [t2, t3, t1] at hinv
            cases cutb e1 e2 S T b (e2 a) <;> simp at hinv
          · -- b is outside: only b closes a ring with a
            refine Or.inl (fun h => ?_)
            have hinv := h (fun z => z < S → cutb e1 e2 S T a z = true) (fun c hc => by
              obtain ⟨b1, b2⟩ := hw c hc.1
              have : cutb e1 e2 S T a (e1 c) = cutb e1 e2 S T a (e2 c) := by
                by_cases hcT : c ∈ T
                · exact tedge a aT c hcT hc.2.2.1
                · refine Classical.byContradiction fun g => ?_
                  have := (rwI a aT c).mpr ⟨hc.1, hc.2.1, hcT, g⟩
                  rw [heq c, rwO b sb bT c] at this
                  exact hc.2.2.2 this
              rw [this]
              exact ⟨fun g _ => g b1, fun g _ => g b2⟩) (fun _ => (ends a aT).1) (hw a ha).2
            rw [(ends a aT).2] at hinv; cases hinv
        · by_cases bT : b ∈ T
          · refine Or.inr (fun h => ?_)
            have hinv := h (fun z => z < S → cutb e1 e2 S T b z = true) (fun c hc => by
              obtain ⟨b1, b2⟩ := hw c hc.1
              have : cutb e1 e2 S T b (e1 c) = cutb e1 e2 S T b (e2 c) := by
                by_cases hcT : c ∈ T
                · exact tedge b bT c hcT hc.2.2.2
                · refine Classical.byContradiction fun g => ?_
                  have := (rwI b bT c).mpr ⟨hc.1, hc.2.1, hcT, g⟩
                  rw [← heq c, rwO a sa aT c] at this
                  exact hc.2.2.1 this
              rw [this]
              exact ⟨fun g _ => g b1, fun g _ => g b2⟩) (fun _ => (ends b bT).1) (hw b hb).2
            rw [(ends b bT).2] at hinv; cases hinv
          · have h1 := (rwO a sa aT a).mpr rfl
            rw [heq a, rwO b sb bT a] at h1
            exact absurd h1 hab
    · constructor
      · intro h
        unfold wkB at h
        simp [sb] at h
      · rintro ⟨⟨j, hj⟩, heq⟩
        rw [heq j, brk b sb j] at hj; cases hj
  · constructor
    · intro h
      unfold wkB at h
      simp [sa] at h
    · rintro ⟨⟨j, hj⟩, -⟩
      rw [brk a sa j] at hj; cases hj
theorem k_markRings (hT : w.1.stackTraces = false) (hq : kQ I S N sd e1 e2 pr fm l) : ∃ J, (∀ c, c ≠ kx_rings → J c = I c) ∧ (∀ k, k < N → ∀ j, j < 32 → bt (J kx_rings k) j = rwB e1 e2 S N sd (net e1 e2 sd l) k j) ∧ ab_U w (d + 4) mt_K_markRings [.ref kx] I L n nc ns J := by
  have p2 := hq.1.1.2.1
  have p4 := hq.1.1.2.2.2.1
  have fr : ∀ {J : Nat → Nat → Int32}, (∀ c, c ≠ kx_rings → J c = I c) → kQ J S N sd e1 e2 pr fm l := fun {J} h => by
    have e : ∀ c, c ≠ kx_rings → J c = I c := h
    unfold kQ kC gr_pre kN wyC wyA at *
    rw [e _ (by decide), e _ (by decide), e _ (by decide), e _ (by decide), e _ (by decide), e _ (by decide), e _ (by decide), e _ (by decide), e _ (by decide), e _ (by decide), e _ (by decide), e _ (by decide), e _ (by decide), e _ (by decide)]
    exact hq
  have loop : ∀ m i (J : Nat → Nat → Int32), i + m = N → (∀ c, c ≠ kx_rings → J c = I c) → (∀ k, k < i → ∀ j, j < 32 → bt (J kx_rings k) j = rwB e1 e2 S N sd (net e1 e2 sd l) k j) → ∃ J', (∀ c, c ≠ kx_rings → J' c = I c) ∧ (∀ k, k < N → ∀ j, j < 32 → bt (J' kx_rings k) j = rwB e1 e2 S N sd (net e1 e2 sd l) k j) ∧ ab_E w ((d + 3) + 1) mt_K_markRings 2 [.ref kx, .int (nI i)] [] (J, L, ab_RR, n, nc, ns) (.inl none, (J', L, ab_RR, n, nc, ns)) := by
    intro m
    induction m with
    | zero =>
      intro i J hi h1 h2
      have e : i = N := by omega
      subst e
      refine ⟨J, h1, h2, ?_⟩
      refine r_K_markRings_2 hT _ (Nat.le_refl _) (Nat.le_refl _) ?_
      refine bb_t ?_ rfl
      rw [h1 _ (by decide), p2]; exact nI_le (Nat.le_refl _) (by omega)
    | succ m ih =>
      intro i J hi h1 h2
      obtain ⟨r, r1, r2⟩ := k_ringsWith (w := w) (d := d) (n := n) (nc := nc) (ns := ns) (L := L) hT (fr h1) (k := i) (by omega)
      obtain ⟨J', g1, g2, g3⟩ := ih (i + 1) (ab_up J kx_rings i r) (by omega) (fun c hc => by rw [ab_up_o hc]; exact h1 c hc) (fun k hk j hj => by
        rw [ab_up_i]
        by_cases e : k = i
        · rw [e, pk_us]; exact r1 j hj
        · rw [pk_un e]; exact h2 k (by omega) j hj)
      refine ⟨J', g1, g2, ?_⟩
      refine r_K_markRings_2 hT _ (Nat.le_refl _) (Nat.le_refl _) ?_
      refine bb_f (by rw [h1 _ (by decide), p2]; exact nI_ge (by omega) (by omega)) ⟨r, r2, vp_in_nI (by omega) (by omega), ?_⟩
      rw [nI_clamp (by omega), nI_1]; exact g3
  obtain ⟨J', g1, g2, g3⟩ := loop N 0 I (by omega) (fun _ _ => rfl) (fun k hk => absurd hk (Nat.not_lt_zero k))
  refine ⟨J', g1, g2, ?_⟩
  refine ab_C_of (by decide) rfl (Nat.le_of_ble_eq_true rfl) hT ?_
  refine r_K_markRings_0 hT (Nat.le_refl _) (Nat.le_refl _) ?_
  exact g3
end KWK
