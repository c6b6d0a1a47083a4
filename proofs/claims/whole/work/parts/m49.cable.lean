/-! THE TWO SIDE BY SIDE: cable, taken, share, site -/
theorem v_rng (v : Int32) (m : Nat) (hm : m < 2 ^ 31) : (∃ i, i < m ∧ v = nI i) ∨ v < 0 ∨ (¬ v < 0 ∧ nI m ≤ v ∧ nI m - 1 < v ∧ ¬ v < nI m) := by
  have z : (0 : Int32).toInt = 0 := by decide
  by_cases h : v < 0
  · exact Or.inr (Or.inl h)
  · have h0 : 0 ≤ v.toInt := by
      rw [Int32.lt_iff_toInt_lt, z] at h; omega
    by_cases g : v.toInt < m
    · refine Or.inl ⟨v.toInt.toNat, by omega, ?_⟩
      apply Int32.toInt_inj.mp
      rw [nI_toInt (by omega)]
      omega
    · have hs : (nI m - 1).toInt = (m : Int) - 1 := by
        by_cases e : m = 0
        · subst e; decide
        · rw [show (1 : Int32) = nI 1 from rfl, nI_sub (by omega), nI_toInt (by omega)]; omega
      refine Or.inr (Or.inr ⟨h, ?_, ?_, ?_⟩)
      · rw [Int32.le_iff_toInt_le, nI_toInt hm]; omega
      · rw [Int32.lt_iff_toInt_lt, hs]; omega
      · rw [Int32.lt_iff_toInt_lt, nI_toInt hm]; omega
theorem v_rg1 {i m : Nat} (h : i < m) (hm : m < 2 ^ 31) : ¬ nI i < 0 ∧ ¬ nI m ≤ nI i ∧ ¬ nI m - 1 < nI i ∧ nI i < nI m := by
  refine ⟨nI_pos (by omega), nI_ge h hm, ?_, (nI_ltI (by omega) hm).mpr h⟩
  rw [show (1 : Int32) = nI 1 from rfl, nI_sub (by omega)]
  intro g
  have := (nI_ltI (by omega) (by omega)).mp g
  omega
section JCA
variable {w : ab_Wd} {d n nc ns : Nat} {I : Nat → Nat → Int32} {L : Nat → Nat → Int64}
variable {S N : Nat} {sd : Nat → Bool} {e1 e2 pr fm : Nat → Nat} {l : List Nat}
theorem k_needCable (hT : w.1.stackTraces = false) (p2 : I kx_now_cables 1 = nI N) (p4 : N ≤ 24) (v : Int32) : (∃ i, i < N ∧ v = nI i ∧ ab_C w (d + 8) mt_K_needCable [.ref kx, .int v] (I, L, ab_RR, n, nc, ns) (.inl none, (I, L, ab_RR, n, nc, ns))) ∨ ((v < 0 ∨ (¬ v < 0 ∧ nI N - 1 < v)) ∧ ab_C w (d + 8) mt_K_needCable [.ref kx, .int v] (I, L, ab_RR, n, nc, ns) (.inr "java/util/NoSuchElementException", (I, L, ab_RR, n, nc + 1, ns + 6))) := by
  rcases v_rng v N (by omega) with ⟨i, hi, e⟩ | h | ⟨h1, h2, h3, h4⟩
  · subst e
    obtain ⟨a1, a2, a3, a4⟩ := v_rg1 hi (by omega)
    refine Or.inl ⟨i, hi, rfl, ?_⟩
    refine ab_C_of (by decide) rfl (Nat.le_of_ble_eq_true rfl) hT ?_
    refine r_K_needCable_0 hT _ (by omega) (Nat.le_refl _) (Nat.le_refl _) ?_
    exact bb_f a1 (bb_f (by rw [p2]; exact a2) rfl)
  · refine Or.inr ⟨Or.inl h, ?_⟩
    refine ab_C_of (by decide) rfl (Nat.le_of_ble_eq_true rfl) hT ?_
    refine r_K_needCable_0 hT _ (by omega) (Nat.le_add_right _ _) (Nat.le_add_right _ _) ?_
    exact bb_t h rfl
  · refine Or.inr ⟨Or.inr ⟨h1, h3⟩, ?_⟩
    refine ab_C_of (by decide) rfl (Nat.le_of_ble_eq_true rfl) hT ?_
    refine r_K_needCable_0 hT _ (by omega) (Nat.le_add_right _ _) (Nat.le_add_right _ _) ?_
    exact bb_f h1 (bb_t (by rw [p2]; exact h2) rfl)
theorem k_needSite (hT : w.1.stackTraces = false) (p1 : I kx_now_cables 0 = nI S) (p3 : S ≤ 10) (v : Int32) : (∃ i, i < S ∧ v = nI i ∧ ab_C w (d + 8) mt_K_needSite [.ref kx, .int v] (I, L, ab_RR, n, nc, ns) (.inl none, (I, L, ab_RR, n, nc, ns))) ∨ ((v < 0 ∨ (¬ v < 0 ∧ nI S - 1 < v)) ∧ ab_C w (d + 8) mt_K_needSite [.ref kx, .int v] (I, L, ab_RR, n, nc, ns) (.inr "java/util/NoSuchElementException", (I, L, ab_RR, n, nc + 1, ns + 6))) := by
  rcases v_rng v S (by omega) with ⟨i, hi, e⟩ | h | ⟨h1, h2, h3, h4⟩
  · subst e
    obtain ⟨a1, a2, a3, a4⟩ := v_rg1 hi (by omega)
    refine Or.inl ⟨i, hi, rfl, ?_⟩
    refine ab_C_of (by decide) rfl (Nat.le_of_ble_eq_true rfl) hT ?_
    refine r_K_needSite_0 hT _ (by omega) (Nat.le_refl _) (Nat.le_refl _) ?_
    exact bb_f a1 (bb_f (by rw [p1]; exact a2) rfl)
  · refine Or.inr ⟨Or.inl h, ?_⟩
    refine ab_C_of (by decide) rfl (Nat.le_of_ble_eq_true rfl) hT ?_
    refine r_K_needSite_0 hT _ (by omega) (Nat.le_add_right _ _) (Nat.le_add_right _ _) ?_
    exact bb_t h rfl
  · refine Or.inr ⟨Or.inr ⟨h1, h3⟩, ?_⟩
    refine ab_C_of (by decide) rfl (Nat.le_of_ble_eq_true rfl) hT ?_
    refine r_K_needSite_0 hT _ (by omega) (Nat.le_add_right _ _) (Nat.le_add_right _ _) ?_
    exact bb_f h1 (bb_t (by rw [p1]; exact h2) rfl)
theorem j_taken (hT : w.1.stackTraces = false) (hR : RQ I S N sd e1 e2 pr fm l) (v : Int32) : qOk w (d + 16) mt_K_taken mt_M_taken [.int v] I L n nc ns I ∨ qNo w (d + 16) mt_K_taken mt_M_taken [.int v] I L n nc ns I "java/util/NoSuchElementException" 1 := by
  obtain ⟨hq, hm, -⟩ := hR
  have hm0 : mC (ab_up I mx 1 0) S N sd e1 e2 pr fm l := mC_gr mgr_c hm
  have hlen := kq_lenA hq.1 sd
  have hS := hq.1.1.2.2.1
  have f1 : I kx_forest 1 = nI (net e1 e2 sd l).length := hq.2.1
  have f2 : ∀ j, j < (net e1 e2 sd l).length → I kx_forest_order j = nI ((net e1 e2 sd l).getD j 0) := hq.2.2.2.2.2.1
  rcases v_rng v (net e1 e2 sd l).length (by omega) with ⟨i, hi, e⟩ | hbad
  · subst e
    obtain ⟨a1, a2, a3, a4⟩ := v_rg1 hi (by omega)
    left
    refine ⟨kfr_refl, nI ((net e1 e2 sd l).getD i 0), ?_, fun L n nc ns => ?_⟩
    · refine ab_C_of (by decide) rfl (Nat.le_of_ble_eq_true rfl) hT ?_
      refine r_K_taken_0 hT _ (by omega) (Nat.le_refl _) (Nat.le_refl _) ?_
      refine bb_f a1 (bb_t (by rw [f1]; exact a4) ⟨vp_in_nI (by omega) (by omega), ?_⟩)
      rw [nI_clamp (by omega), f2 i hi]
    · obtain ⟨K, r, b1, b2, b3⟩ := z_netNow (d := d + 12) (w := w) (n := n) (nc := nc) (ns := ns) (L := L) hT hm0
      refine ⟨K, (mfr_ok (mfr_nm b1)).1, (mfr_ok (mfr_nm b1)).2, ?_⟩
      have t1 : K mx 21 = nI (net e1 e2 sd l).length := b1.2.2.1
      have t2 : K mx_taken i = nI ((net e1 e2 sd l).getD i 0) := b1.2.2.2.2.1 i hi
      refine ab_C_of (by decide) rfl (Nat.le_of_ble_eq_true rfl) hT ?_
      refine r_M_taken_0 hT _ (Nat.le_refl _) (Nat.le_refl _) ?_
      refine ⟨r, K, b3, bb_f a1 (bb_f (by rw [t1]; exact a3) ⟨vp_in_nI (by omega) (by omega), ?_⟩)⟩
      rw [nI_clamp (by omega), t2]
  · right
    refine ⟨kfr_refl, ?_, fun L n nc ns => ?_⟩
    · refine ab_C_of (by decide) rfl (Nat.le_of_ble_eq_true rfl) hT ?_
      refine r_K_taken_0 hT _ (by omega) (Nat.le_add_right _ _) (Nat.le_add_right _ _) ?_
      rcases hbad with h | ⟨h1, h2, h3, h4⟩
      · exact bb_t h rfl
      · exact bb_f h1 (bb_f (by rw [f1]; exact h4) rfl)
    · obtain ⟨K, r, b1, b2, b3⟩ := z_netNow (d := d + 12) (w := w) (n := n) (nc := nc) (ns := ns) (L := L) hT hm0
      have t1 : K mx 21 = nI (net e1 e2 sd l).length := b1.2.2.1
      refine ⟨0, ab_up K mx 1 1, mgr_trans mgr_c (mfr_ok (mfr_nm b1)).1, by rw [ab_up_i, pk_us], ?_⟩
      refine ab_C_of (by decide) rfl (Nat.le_of_ble_eq_true rfl) hT ?_
      refine r_M_taken_0 hT _ (Nat.le_refl _) (Nat.le_refl _) ?_
      refine ⟨r, K, b3, ?_⟩
      rcases hbad with h | ⟨h1, h2, h3, h4⟩
      · exact bb_t h rfl
      · exact bb_f h1 (bb_t (by rw [t1]; exact h3) rfl)
theorem j_cable (hT : w.1.stackTraces = false) (hR : RQ I S N sd e1 e2 pr fm l) (v u : Int32) : qOk w (d + 16) mt_K_cable mt_M_cable [.int v, .int u] I L n nc ns I ∨ qNo w (d + 16) mt_K_cable mt_M_cable [.int v, .int u] I L n nc ns I "java/util/NoSuchElementException" 1 := by
  obtain ⟨hq, hm, -⟩ := hR
  have hm0 : mC (ab_up I mx 1 0) S N sd e1 e2 pr fm l := mC_gr mgr_c hm
  have p2 := hq.1.1.2.1
  have p3 := hq.1.1.2.2.1
  have p4 := hq.1.1.2.2.2.1
  have z1 : I mx_now 0 = nI N := hm.1.2.1
  rcases k_needCable (d := d + 7) (w := w) (n := n) (nc := nc) (ns := ns) (L := L) hT p2 p4 v with ⟨k, hk, e, need⟩ | ⟨hbad, need⟩
  · subst e
    obtain ⟨a1, a2, a3, a4⟩ := v_rg1 hk (by omega)
    have hsk := hq.1.2.2.2.1 k (by omega)
    have hb := kq_bits hq (k := k) (by omega)
    obtain ⟨q1, q2, q3, q4, q5, q6⟩ := hq.1.1.2.2.2.2.2.2.2 k hk
    have q7 := (hq.1.2.2.2.2.2 k hk).1
    obtain ⟨y1, y2, y3, y4⟩ := kq_w hq (e1 k) (e2 k) q4 q5
    rcases v_cases u 11 (by decide) with ⟨i, hi, e⟩ | hout
    · subst e
      left
      have hi : i = 0 ∨ i = 1 ∨ i = 2 ∨ i = 3 ∨ i = 4 ∨ i = 5 ∨ i = 6 ∨ i = 7 ∨ i = 8 ∨ i = 9 ∨ i = 10 ∨ i = 11 := by omega
      obtain ⟨w1, w2, w3, w4, w5, w6⟩ := hm.1.2.2.2.2.2 k hk
      have w7 := (hm.2.2.2.2 k hk).1
      have hs9 := hm.2.2.1 k (by omega)
      rcases hi with e | e | e | e | e | e | e | e | e | e | e | e <;> subst e
      · refine ⟨kfr_refl, nI (e1 k), ?_, fun L n nc ns => ?_⟩
        · refine ab_C_of (by decide) rfl (Nat.le_of_ble_eq_true rfl) hT ?_
          refine r_K_cable_0 hT _ _ (by omega) (Nat.le_refl _) (Nat.le_refl _) ?_
          refine Or.inl ⟨need, ?_⟩
          (and_intros <;> intro h <;> first | exact absurd h (by decide) | exact ⟨vp_in_nI (by omega) (by omega), by rw [nI_clamp (by omega), q1]⟩)
        · obtain ⟨I9, r8, n1, n2, n3⟩ := z_netNow (d := d + 12) (w := w) (n := n) (nc := nc) (ns := ns) (L := L) hT hm0; have hn9 := mfr_nm n1; have hm9 := mC_fr hn9 hm0; have e9 : I9 mx_now = I mx_now := by rw [mfr_now hn9, ab_up_o (by decide)]
          refine ⟨I9, (mfr_ok hn9).1, (mfr_ok hn9).2, ?_⟩
          refine ab_C_of (by decide) rfl (Nat.le_of_ble_eq_true rfl) hT ?_
          refine r_M_cable_0 hT _ _ (Nat.le_refl _) (Nat.le_refl _) ?_
          refine bb_f a1 (bb_f (by rw [z1]; exact a3) ⟨r8, I9, n3, ?_⟩)
          rw [nl_add2, nl_add2, nl_add2, nl_add2, nI_clamp (by omega), nI_clamp (by omega), nI_clamp (by omega), nI_clamp (by omega)]
          (and_intros <;> intro h <;> first | exact absurd h (by decide) | exact ⟨vp_in_nI (by omega) (by omega), by rw [e9, w1]⟩)
      · refine ⟨kfr_refl, nI (e2 k), ?_, fun L n nc ns => ?_⟩
        · refine ab_C_of (by decide) rfl (Nat.le_of_ble_eq_true rfl) hT ?_
          refine r_K_cable_0 hT _ _ (by omega) (Nat.le_refl _) (Nat.le_refl _) ?_
          refine Or.inl ⟨need, ?_⟩
          (and_intros <;> intro h <;> first | exact absurd h (by decide) | exact ⟨vp_in_nI (by omega) (by omega), by rw [nI_clamp (by omega), q2]⟩)
        · obtain ⟨I9, r8, n1, n2, n3⟩ := z_netNow (d := d + 12) (w := w) (n := n) (nc := nc) (ns := ns) (L := L) hT hm0; have hn9 := mfr_nm n1; have hm9 := mC_fr hn9 hm0; have e9 : I9 mx_now = I mx_now := by rw [mfr_now hn9, ab_up_o (by decide)]
          refine ⟨I9, (mfr_ok hn9).1, (mfr_ok hn9).2, ?_⟩
          refine ab_C_of (by decide) rfl (Nat.le_of_ble_eq_true rfl) hT ?_
          refine r_M_cable_0 hT _ _ (Nat.le_refl _) (Nat.le_refl _) ?_
          refine bb_f a1 (bb_f (by rw [z1]; exact a3) ⟨r8, I9, n3, ?_⟩)
          rw [nl_add2, nl_add2, nl_add2, nl_add2, nI_clamp (by omega), nI_clamp (by omega), nI_clamp (by omega), nI_clamp (by omega)]
          (and_intros <;> intro h <;> first | exact absurd h (by decide) | exact ⟨vp_in_nI (by omega) (by omega), by rw [e9, w2]⟩)
      · refine ⟨kfr_refl, nI (pr k), ?_, fun L n nc ns => ?_⟩
        · refine ab_C_of (by decide) rfl (Nat.le_of_ble_eq_true rfl) hT ?_
          refine r_K_cable_0 hT _ _ (by omega) (Nat.le_refl _) (Nat.le_refl _) ?_
          refine Or.inl ⟨need, ?_⟩
          (and_intros <;> intro h <;> first | exact absurd h (by decide) | exact ⟨vp_in_nI (by omega) (by omega), by rw [nI_clamp (by omega), q3]⟩)
        · obtain ⟨I9, r8, n1, n2, n3⟩ := z_netNow (d := d + 12) (w := w) (n := n) (nc := nc) (ns := ns) (L := L) hT hm0; have hn9 := mfr_nm n1; have hm9 := mC_fr hn9 hm0; have e9 : I9 mx_now = I mx_now := by rw [mfr_now hn9, ab_up_o (by decide)]
          refine ⟨I9, (mfr_ok hn9).1, (mfr_ok hn9).2, ?_⟩
          refine ab_C_of (by decide) rfl (Nat.le_of_ble_eq_true rfl) hT ?_
          refine r_M_cable_0 hT _ _ (Nat.le_refl _) (Nat.le_refl _) ?_
          refine bb_f a1 (bb_f (by rw [z1]; exact a3) ⟨r8, I9, n3, ?_⟩)
          rw [nl_add2, nl_add2, nl_add2, nl_add2, nI_clamp (by omega), nI_clamp (by omega), nI_clamp (by omega), nI_clamp (by omega)]
          (and_intros <;> intro h <;> first | exact absurd h (by decide) | exact ⟨vp_in_nI (by omega) (by omega), by rw [e9, w3]⟩)
      · refine ⟨kfr_refl, nI (fm k), ?_, fun L n nc ns => ?_⟩
        · refine ab_C_of (by decide) rfl (Nat.le_of_ble_eq_true rfl) hT ?_
          refine r_K_cable_0 hT _ _ (by omega) (Nat.le_refl _) (Nat.le_refl _) ?_
          refine Or.inl ⟨need, ?_⟩
          (and_intros <;> intro h <;> first | exact absurd h (by decide) | exact ⟨vp_in_nI (by omega) (by omega), by rw [nI_clamp (by omega), q7]⟩)
        · obtain ⟨I9, r8, n1, n2, n3⟩ := z_netNow (d := d + 12) (w := w) (n := n) (nc := nc) (ns := ns) (L := L) hT hm0; have hn9 := mfr_nm n1; have hm9 := mC_fr hn9 hm0; have e9 : I9 mx_now = I mx_now := by rw [mfr_now hn9, ab_up_o (by decide)]
          refine ⟨I9, (mfr_ok hn9).1, (mfr_ok hn9).2, ?_⟩
          refine ab_C_of (by decide) rfl (Nat.le_of_ble_eq_true rfl) hT ?_
          refine r_M_cable_0 hT _ _ (Nat.le_refl _) (Nat.le_refl _) ?_
          refine bb_f a1 (bb_f (by rw [z1]; exact a3) ⟨r8, I9, n3, ?_⟩)
          rw [nl_add2, nl_add2, nl_add2, nl_add2, nI_clamp (by omega), nI_clamp (by omega), nI_clamp (by omega), nI_clamp (by omega)]
          (and_intros <;> intro h <;> first | exact absurd h (by decide) | exact ⟨vp_in_nI (by omega) (by omega), by rw [e9, w7]⟩)
      · refine ⟨kfr_refl, if sd k = true then 1 else 0, ?_, fun L n nc ns => ?_⟩
        · refine ab_C_of (by decide) rfl (Nat.le_of_ble_eq_true rfl) hT ?_
          refine r_K_cable_0 hT _ _ (by omega) (Nat.le_refl _) (Nat.le_refl _) ?_
          refine Or.inl ⟨need, ?_⟩
          rw [nl_bit (I kx_now_cables 2) (show k < 32 by omega), hsk]
          (and_intros <;> intro h <;> first | exact absurd h (by decide) | exact ⟨fun g => by rw [if_pos g], fun g => by rw [if_neg g]⟩)
        · obtain ⟨I9, r8, n1, n2, n3⟩ := z_netNow (d := d + 12) (w := w) (n := n) (nc := nc) (ns := ns) (L := L) hT hm0; have hn9 := mfr_nm n1; have hm9 := mC_fr hn9 hm0; have e9 : I9 mx_now = I mx_now := by rw [mfr_now hn9, ab_up_o (by decide)]
          refine ⟨I9, (mfr_ok hn9).1, (mfr_ok hn9).2, ?_⟩
          refine ab_C_of (by decide) rfl (Nat.le_of_ble_eq_true rfl) hT ?_
          refine r_M_cable_0 hT _ _ (Nat.le_refl _) (Nat.le_refl _) ?_
          refine bb_f a1 (bb_f (by rw [z1]; exact a3) ⟨r8, I9, n3, ?_⟩)
          rw [nl_bit (I9 mx_now 1) (show k < 32 by omega), e9, hs9]
          (and_intros <;> intro h <;> first | exact absurd h (by decide) | exact ⟨fun g => by rw [if_pos g], fun g => by rw [if_neg g]⟩)
      · refine ⟨kfr_refl, if decide (k ∈ net e1 e2 sd l) = true then 1 else 0, ?_, fun L n nc ns => ?_⟩
        · refine ab_C_of (by decide) rfl (Nat.le_of_ble_eq_true rfl) hT ?_
          refine r_K_cable_0 hT _ _ (by omega) (Nat.le_refl _) (Nat.le_refl _) ?_
          refine Or.inl ⟨need, ?_⟩
          rw [nl_bit (I kx_forest 2) (show k < 32 by omega), hb]
          (and_intros <;> intro h <;> first | exact absurd h (by decide) | exact ⟨fun g => by rw [if_pos g], fun g => by rw [if_neg g]⟩)
        · obtain ⟨I9, r8, n1, n2, n3⟩ := z_netNow (d := d + 12) (w := w) (n := n) (nc := nc) (ns := ns) (L := L) hT hm0; have hn9 := mfr_nm n1; have hm9 := mC_fr hn9 hm0; have e9 : I9 mx_now = I mx_now := by rw [mfr_now hn9, ab_up_o (by decide)]
          refine ⟨I9, (mfr_ok hn9).1, (mfr_ok hn9).2, ?_⟩
          refine ab_C_of (by decide) rfl (Nat.le_of_ble_eq_true rfl) hT ?_
          refine r_M_cable_0 hT _ _ (Nat.le_refl _) (Nat.le_refl _) ?_
          refine bb_f a1 (bb_f (by rw [z1]; exact a3) ⟨r8, I9, n3, ?_⟩)
          rw [nl_bit r8 (show k < 32 by omega), n2 k (by omega)]
          (and_intros <;> intro h <;> first | exact absurd h (by decide) | exact ⟨fun g => by rw [if_pos g], fun g => by rw [if_neg g]⟩)
      · refine ⟨kfr_refl, if sd k = true ∧ k ∉ net e1 e2 sd l then wH (pth e1 e2 (net e1 e2 sd l).reverse (e1 k) (e2 k)) else 0, ?_, fun L n nc ns => ?_⟩
        · refine ab_C_of (by decide) rfl (Nat.le_of_ble_eq_true rfl) hT ?_
          refine r_K_cable_0 hT _ _ (by omega) (Nat.le_refl _) (Nat.le_refl _) ?_
          refine Or.inl ⟨need, ?_⟩
          rw [nl_bit (I kx_forest 2) (show k < 32 by omega), nl_bit (I kx_now_cables 2) (show k < 32 by omega), hb, hsk, nI_clamp (by omega), q1, q2, nl_mul1, nI_add, nI_clamp (by omega), y2, decide_eq_true_iff]
          (and_intros <;> intro h <;> first | exact absurd h (by decide) | exact ⟨fun g => ⟨fun g2 => by rw [if_neg (fun g3 => g3.2 g2)], fun g2 => ⟨vp_in_nI (by omega) (by omega), vp_in_nI (by omega) (by omega), by rw [if_pos ⟨g, g2⟩]⟩⟩, fun g => by rw [if_neg (fun g3 => g g3.1)]⟩)
        · obtain ⟨I9, r8, n1, n2, n3⟩ := z_netNow (d := d + 12) (w := w) (n := n) (nc := nc) (ns := ns) (L := L) hT hm0; have hn9 := mfr_nm n1; have hm9 := mC_fr hn9 hm0; have e9 : I9 mx_now = I mx_now := by rw [mfr_now hn9, ab_up_o (by decide)]
          obtain ⟨K, p, t1, t2, t3, t4, t5⟩ := z_tellRing (d := d + 13) (w := w) (n := n) (nc := nc) (ns := ns) (L := L) hT hm9 n2 hk
          have f := mfr_trans t1 hn9
          have e : (if sd k = true ∧ k ∉ net e1 e2 sd l then wH (pth e1 e2 (net e1 e2 sd l).reverse (e1 k) (e2 k)) else 0) = nI p.length := by
            by_cases g : sd k = true ∧ k ∉ net e1 e2 sd l
            · rw [if_pos g, (t3 g.1 g.2).1]; rfl
            · rw [if_neg g, t4 g]; rfl
          rw [e]
          refine ⟨K, (mfr_ok f).1, (mfr_ok f).2, ?_⟩
          refine ab_C_of (by decide) rfl (Nat.le_of_ble_eq_true rfl) hT ?_
          refine r_M_cable_0 hT _ _ (Nat.le_refl _) (Nat.le_refl _) ?_
          refine bb_f a1 (bb_f (by rw [z1]; exact a3) ⟨r8, I9, n3, ?_⟩)
          (and_intros <;> intro h <;> first | exact absurd h (by decide) | exact ⟨_, K, t5, rfl⟩)
      · refine ⟨kfr_refl, if sd k = true ∧ k ∉ net e1 e2 sd l then wD pr (pth e1 e2 (net e1 e2 sd l).reverse (e1 k) (e2 k)) else -1, ?_, fun L n nc ns => ?_⟩
        · refine ab_C_of (by decide) rfl (Nat.le_of_ble_eq_true rfl) hT ?_
          refine r_K_cable_0 hT _ _ (by omega) (Nat.le_refl _) (Nat.le_refl _) ?_
          refine Or.inl ⟨need, ?_⟩
          rw [nl_bit (I kx_forest 2) (show k < 32 by omega), nl_bit (I kx_now_cables 2) (show k < 32 by omega), hb, hsk, nI_clamp (by omega), q1, q2, nl_mul1, nI_add, nI_clamp (by omega), y4, decide_eq_true_iff]
          (and_intros <;> intro h <;> first | exact absurd h (by decide) | exact ⟨fun g => ⟨fun g2 => by rw [if_neg (fun g3 => g3.2 g2)], fun g2 => ⟨vp_in_nI (by omega) (by omega), vp_in_nI (by omega) (by omega), by rw [if_pos ⟨g, g2⟩]⟩⟩, fun g => by rw [if_neg (fun g3 => g g3.1)]⟩)
        · obtain ⟨I9, r8, n1, n2, n3⟩ := z_netNow (d := d + 12) (w := w) (n := n) (nc := nc) (ns := ns) (L := L) hT hm0; have hn9 := mfr_nm n1; have hm9 := mC_fr hn9 hm0; have e9 : I9 mx_now = I mx_now := by rw [mfr_now hn9, ab_up_o (by decide)]
          obtain ⟨K, p, t1, t2, t3, t4, t5⟩ := z_tellRing (d := d + 13) (w := w) (n := n) (nc := nc) (ns := ns) (L := L) hT hm9 n2 hk
          have f := mfr_trans t1 hn9
          obtain ⟨r, d1, d2⟩ := z_dearest (d := d + 13) (w := w) (n := n) (nc := nc) (ns := ns) (L := L) hT (mC_fr t1 hm9).1 t2
          refine ⟨K, (mfr_ok f).1, (mfr_ok f).2, ?_⟩
          by_cases g : sd k = true ∧ k ∉ net e1 e2 sd l
          · obtain ⟨p', c, c1, c2, c3, c4, c5, c6⟩ := out_ring hq hk g.1 g.2
            have ep : p' = p := by
              have := (t3 g.1 g.2).1
              rw [c1] at this; exact Option.some.inj this
            subst ep
            have er : r = nI c := by
              rcases d1 with ⟨h1, h2⟩ | ⟨c', h1, h2⟩
              · exact absurd h1 c2
              · rw [h2, dst_uq h1 c3]
            rw [if_pos g, c1, c6]
            have hpl : p'.length ≤ 9 := t2.2.1
            have hp0 : ¬ nI p'.length = 0 := fun h => c2 (List.length_eq_zero_iff.mp ((nI_eq (b := 0) (by omega) (by omega)).mp h))
            refine ab_C_of (by decide) rfl (Nat.le_of_ble_eq_true rfl) hT ?_
            refine r_M_cable_0 hT _ _ (Nat.le_refl _) (Nat.le_refl _) ?_
            refine bb_f a1 (bb_f (by rw [z1]; exact a3) ⟨r8, I9, n3, ?_⟩)
            (and_intros <;> intro h <;> first | exact absurd h (by decide) | exact ⟨_, K, t5, fun _ => ⟨r, d2, by rw [er]⟩, fun h => absurd h hp0⟩)
          · rw [if_neg g]
            rw [t4 g] at t5
            refine ab_C_of (by decide) rfl (Nat.le_of_ble_eq_true rfl) hT ?_
            refine r_M_cable_0 hT _ _ (Nat.le_refl _) (Nat.le_refl _) ?_
            refine bb_f a1 (bb_f (by rw [z1]; exact a3) ⟨r8, I9, n3, ?_⟩)
            (and_intros <;> intro h <;> first | exact absurd h (by decide) | exact ⟨_, K, t5, fun h => absurd rfl h, fun _ => rfl⟩)
      · have a := k_cutOf (d := d + 13) (w := w) (n := n) (nc := nc) (ns := ns) (L := L) hT hq hk
        refine ⟨kfr_refl, ab_mask S (cutb e1 e2 S (net e1 e2 sd l) k), ?_, fun L n nc ns => ?_⟩
        · refine ab_C_of (by decide) rfl (Nat.le_of_ble_eq_true rfl) hT ?_
          refine r_K_cable_0 hT _ _ (by omega) (Nat.le_refl _) (Nat.le_refl _) ?_
          refine Or.inl ⟨need, ?_⟩
          (and_intros <;> intro h <;> first | exact absurd h (by decide) | exact ⟨_, a, rfl⟩)
        · obtain ⟨I9, r8, n1, n2, n3⟩ := z_netNow (d := d + 12) (w := w) (n := n) (nc := nc) (ns := ns) (L := L) hT hm0; have hn9 := mfr_nm n1; have hm9 := mC_fr hn9 hm0; have e9 : I9 mx_now = I mx_now := by rw [mfr_now hn9, ab_up_o (by decide)]
          obtain ⟨K, t1, t2⟩ := z_cutOf (d := d + 13) (w := w) (n := n) (nc := nc) (ns := ns) (L := L) hT hm9 n2 hk
          have f := mfr_trans t1 hn9
          refine ⟨K, (mfr_ok f).1, (mfr_ok f).2, ?_⟩
          refine ab_C_of (by decide) rfl (Nat.le_of_ble_eq_true rfl) hT ?_
          refine r_M_cable_0 hT _ _ (Nat.le_refl _) (Nat.le_refl _) ?_
          refine bb_f a1 (bb_f (by rw [z1]; exact a3) ⟨r8, I9, n3, ?_⟩)
          (and_intros <;> intro h <;> first | exact absurd h (by decide) | exact ⟨_, K, t2, rfl⟩)
      · obtain ⟨r, a0, a⟩ := k_rivalOf (d := d + 12) (w := w) (n := n) (nc := nc) (ns := ns) (L := L) hT hq hk
        refine ⟨kfr_refl, r, ?_, fun L n nc ns => ?_⟩
        · refine ab_C_of (by decide) rfl (Nat.le_of_ble_eq_true rfl) hT ?_
          refine r_K_cable_0 hT _ _ (by omega) (Nat.le_refl _) (Nat.le_refl _) ?_
          refine Or.inl ⟨need, ?_⟩
          (and_intros <;> intro h <;> first | exact absurd h (by decide) | exact ⟨_, a, rfl⟩)
        · obtain ⟨I9, r8, n1, n2, n3⟩ := z_netNow (d := d + 12) (w := w) (n := n) (nc := nc) (ns := ns) (L := L) hT hm0; have hn9 := mfr_nm n1; have hm9 := mC_fr hn9 hm0; have e9 : I9 mx_now = I mx_now := by rw [mfr_now hn9, ab_up_o (by decide)]
          obtain ⟨K, r', t1, t0, t2⟩ := z_rivalOf (d := d + 12) (w := w) (n := n) (nc := nc) (ns := ns) (L := L) hT hm9 n2 hk
          have f := mfr_trans t1 hn9
          rw [chp_uq a0 t0]
          refine ⟨K, (mfr_ok f).1, (mfr_ok f).2, ?_⟩
          refine ab_C_of (by decide) rfl (Nat.le_of_ble_eq_true rfl) hT ?_
          refine r_M_cable_0 hT _ _ (Nat.le_refl _) (Nat.le_refl _) ?_
          refine bb_f a1 (bb_f (by rw [z1]; exact a3) ⟨r8, I9, n3, ?_⟩)
          (and_intros <;> intro h <;> first | exact absurd h (by decide) | exact ⟨_, K, t2, rfl⟩)
      · obtain ⟨a5, a6⟩ := k_barOf (d := d + 10) (w := w) (n := n) (nc := nc) (ns := ns) (L := L) hT hq hk
        by_cases hs : sd k = true
        · obtain ⟨o, o1, o2⟩ := a5 hs
          refine ⟨kfr_refl, brV (brN pr k o), ?_, fun L n nc ns => ?_⟩
          · refine ab_C_of (by decide) rfl (Nat.le_of_ble_eq_true rfl) hT ?_
            refine r_K_cable_0 hT _ _ (by omega) (Nat.le_refl _) (Nat.le_refl _) ?_
            refine Or.inl ⟨need, ?_⟩
            (and_intros <;> intro h <;> first | exact absurd h (by decide) | exact ⟨_, o2, rfl⟩)
          · obtain ⟨I9, r8, n1, n2, n3⟩ := z_netNow (d := d + 12) (w := w) (n := n) (nc := nc) (ns := ns) (L := L) hT hm0; have hn9 := mfr_nm n1; have hm9 := mC_fr hn9 hm0; have e9 : I9 mx_now = I mx_now := by rw [mfr_now hn9, ab_up_o (by decide)]
            obtain ⟨K, t1, t2⟩ := (z_barOf (d := d + 11) (w := w) (n := n) (nc := nc) (ns := ns) (L := L) hT hm9 hk).1 o hs o1 (brN_le hq o1)
            have f := mfr_trans t1 hn9
            refine ⟨K, (mfr_ok f).1, (mfr_ok f).2, ?_⟩
            refine ab_C_of (by decide) rfl (Nat.le_of_ble_eq_true rfl) hT ?_
            refine r_M_cable_0 hT _ _ (Nat.le_refl _) (Nat.le_refl _) ?_
            refine bb_f a1 (bb_f (by rw [z1]; exact a3) ⟨r8, I9, n3, ?_⟩)
            (and_intros <;> intro h <;> first | exact absurd h (by decide) | exact ⟨_, K, t2, rfl⟩)
        · have o2 := a6 hs
          refine ⟨kfr_refl, -1, ?_, fun L n nc ns => ?_⟩
          · refine ab_C_of (by decide) rfl (Nat.le_of_ble_eq_true rfl) hT ?_
            refine r_K_cable_0 hT _ _ (by omega) (Nat.le_refl _) (Nat.le_refl _) ?_
            refine Or.inl ⟨need, ?_⟩
            (and_intros <;> intro h <;> first | exact absurd h (by decide) | exact ⟨_, o2, rfl⟩)
          · obtain ⟨I9, r8, n1, n2, n3⟩ := z_netNow (d := d + 12) (w := w) (n := n) (nc := nc) (ns := ns) (L := L) hT hm0; have hn9 := mfr_nm n1; have hm9 := mC_fr hn9 hm0; have e9 : I9 mx_now = I mx_now := by rw [mfr_now hn9, ab_up_o (by decide)]
            have t2 := (z_barOf (d := d + 11) (w := w) (n := n) (nc := nc) (ns := ns) (L := L) hT hm9 hk).2 hs
            refine ⟨I9, (mfr_ok hn9).1, (mfr_ok hn9).2, ?_⟩
            refine ab_C_of (by decide) rfl (Nat.le_of_ble_eq_true rfl) hT ?_
            refine r_M_cable_0 hT _ _ (Nat.le_refl _) (Nat.le_refl _) ?_
            refine bb_f a1 (bb_f (by rw [z1]; exact a3) ⟨r8, I9, n3, ?_⟩)
            (and_intros <;> intro h <;> first | exact absurd h (by decide) | exact ⟨_, I9, t2, rfl⟩)
      · obtain ⟨a5, a6⟩ := k_lossOf (d := d + 10) (w := w) (n := n) (nc := nc) (ns := ns) (L := L) hT hq hk
        by_cases hs : sd k = true
        · have o2 := a5 hs
          refine ⟨kfr_refl, ls_v pr (net e1 e2 sd l) (net e1 e2 (fun x => sd x && !decide (x = k)) l), ?_, fun L n nc ns => ?_⟩
          · refine ab_C_of (by decide) rfl (Nat.le_of_ble_eq_true rfl) hT ?_
            refine r_K_cable_0 hT _ _ (by omega) (Nat.le_refl _) (Nat.le_refl _) ?_
            refine Or.inl ⟨need, ?_⟩
            (and_intros <;> intro h <;> first | exact absurd h (by decide) | exact ⟨_, o2, rfl⟩)
          · obtain ⟨I9, r8, n1, n2, n3⟩ := z_netNow (d := d + 12) (w := w) (n := n) (nc := nc) (ns := ns) (L := L) hT hm0; have hn9 := mfr_nm n1; have hm9 := mC_fr hn9 hm0; have e9 : I9 mx_now = I mx_now := by rw [mfr_now hn9, ab_up_o (by decide)]
            obtain ⟨K, t1, t2⟩ := z_lossOf (d := d + 11) (w := w) (n := n) (nc := nc) (ns := ns) (L := L) hT hm9 (x := (1 : Int32) <<< (nI k &&& 31)) (xo := fun x => decide (x = k)) (fun j hj => ab_sh1 (by omega) hj)
            have f := mfr_trans t1 hn9
            refine ⟨K, (mfr_ok f).1, (mfr_ok f).2, ?_⟩
            refine ab_C_of (by decide) rfl (Nat.le_of_ble_eq_true rfl) hT ?_
            refine r_M_cable_0 hT _ _ (Nat.le_refl _) (Nat.le_refl _) ?_
            refine bb_f a1 (bb_f (by rw [z1]; exact a3) ⟨r8, I9, n3, ?_⟩)
            rw [nl_bit (I9 mx_now 1) (show k < 32 by omega), e9, hs9]
            (and_intros <;> intro h <;> first | exact absurd h (by decide) | exact ⟨fun _ => ⟨_, K, t2, rfl⟩, fun h => absurd hs h⟩)
        · have o2 := a6 hs
          refine ⟨kfr_refl, -1, ?_, fun L n nc ns => ?_⟩
          · refine ab_C_of (by decide) rfl (Nat.le_of_ble_eq_true rfl) hT ?_
            refine r_K_cable_0 hT _ _ (by omega) (Nat.le_refl _) (Nat.le_refl _) ?_
            refine Or.inl ⟨need, ?_⟩
            (and_intros <;> intro h <;> first | exact absurd h (by decide) | exact ⟨_, o2, rfl⟩)
          · obtain ⟨I9, r8, n1, n2, n3⟩ := z_netNow (d := d + 12) (w := w) (n := n) (nc := nc) (ns := ns) (L := L) hT hm0; have hn9 := mfr_nm n1; have hm9 := mC_fr hn9 hm0; have e9 : I9 mx_now = I mx_now := by rw [mfr_now hn9, ab_up_o (by decide)]
            refine ⟨I9, (mfr_ok hn9).1, (mfr_ok hn9).2, ?_⟩
            refine ab_C_of (by decide) rfl (Nat.le_of_ble_eq_true rfl) hT ?_
            refine r_M_cable_0 hT _ _ (Nat.le_refl _) (Nat.le_refl _) ?_
            refine bb_f a1 (bb_f (by rw [z1]; exact a3) ⟨r8, I9, n3, ?_⟩)
            rw [nl_bit (I9 mx_now 1) (show k < 32 by omega), e9, hs9]
            (and_intros <;> intro h <;> first | exact absurd h (by decide) | exact ⟨fun h => absurd h hs, fun _ => rfl⟩)
    · right
      have hne : ∀ i, i ≤ 11 → u ≠ nI i := fun i hi e => by
        subst e; rw [nI_toInt (by omega)] at hout; omega
      refine ⟨kfr_refl, ?_, fun L n nc ns => ?_⟩
      · refine ab_C_of (by decide) rfl (Nat.le_of_ble_eq_true rfl) hT ?_
        refine r_K_cable_0 hT _ _ (by omega) (Nat.le_add_right _ _) (Nat.le_add_right _ _) ?_
        refine Or.inl ⟨need, ?_⟩
        (and_intros <;> intro h <;> first | exact absurd h (hne _ (by decide)) | rfl)
      · obtain ⟨I9, r8, n1, n2, n3⟩ := z_netNow (d := d + 12) (w := w) (n := n) (nc := nc) (ns := ns) (L := L) hT hm0
        refine ⟨0, ab_up I9 mx 1 1, mgr_trans mgr_c (mfr_ok (mfr_nm n1)).1, by rw [ab_up_i, pk_us], ?_⟩
        refine ab_C_of (by decide) rfl (Nat.le_of_ble_eq_true rfl) hT ?_
        refine r_M_cable_0 hT _ _ (Nat.le_refl _) (Nat.le_refl _) ?_
        refine bb_f a1 (bb_f (by rw [z1]; exact a3) ⟨r8, I9, n3, ?_⟩)
        (and_intros <;> intro h <;> first | exact absurd h (hne _ (by decide)) | rfl)
  · right
    refine ⟨kfr_refl, ?_, fun L n nc ns => ⟨0, _, mgr_x.1, mgr_x.2, ?_⟩⟩
    · refine ab_C_of (by decide) rfl (Nat.le_of_ble_eq_true rfl) hT ?_
      refine r_K_cable_0 hT _ _ (by omega) (Nat.le_add_right _ _) (Nat.le_add_right _ _) ?_
      exact Or.inr ⟨_, need, rfl⟩
    · refine ab_C_of (by decide) rfl (Nat.le_of_ble_eq_true rfl) hT ?_
      refine r_M_cable_0 hT _ _ (Nat.le_refl _) (Nat.le_refl _) ?_
      rcases hbad with h | ⟨h1, h2⟩
      · exact bb_t h rfl
      · exact bb_f h1 (bb_t (by rw [z1]; exact h2) rfl)
end JCA
