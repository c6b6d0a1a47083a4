/-! BREAKS and MEND side by side -/
section JTU
variable {w : ab_Wd} {d n nc ns : Nat} {I : Nat → Nat → Int32} {L : Nat → Nat → Int64}
variable {T : Nat}
theorem j_breaks (hT : w.1.stackTraces = false) (g : RR I T) (hT9 : T ≤ 1000) (v : Int32) : jA w (d + 16) mt_K_breaks mt_M_breaks [.int v] I L n nc ns (T + 1) := by
  obtain ⟨S, ⟨N, sd, e1, e2, pr, fm, l, E, h, o, m, ac, rr, mn, cb, ib, hs, hn⟩, ht, hi⟩ := id g
  have c1 : I kx_now_cables 1 = nI N := hs.1.1.2.1
  have z1 : I mx_now 0 = nI N := hs.2.1.1.2.1
  have p4 := hs.1.1.2.2.2.1
  have hE := hs.2.2.2.2.2.2.2.1
  have ref := ref_ok (i := 1) (Or.inl rfl) g
  have zJ : (ab_up I kx_now_refused 1 (I kx_now_refused 1 + 1)) mx_now = I mx_now := by rw [ab_up_o (by decide)]
  rcases v_rng v N (by omega) with ⟨k, hk, e⟩ | hv | ⟨hv1, hv2, hv3, hv4⟩
  · subst e
    obtain ⟨a1, a2, a3, a4⟩ := v_rg1 hk (by omega)
    have sk := hs.1.2.2.2.1 k (by omega)
    have sm := hs.2.1.2.2.1 k (by omega)
    by_cases hsk : sd k = true
    · obtain ⟨J1, o', f1, k1, F1, A1, h1, b9, x1, xl, xe, u1⟩ := a_keep (d := d + 13) (w := w) (n := n) (nc := nc) (ns := ns) (L := L) hT hs hn
      have hx : ∀ j, j < 32 → bt ((J1 kx_now_cables 2) &&& (((1 : Int32) <<< (nI k &&& 31)) ^^^ (-1))) j = (fun j => if j = k then !sd k else sd j) j := fun j hj => by
        show _ = if j = k then !sd k else sd j
        rw [b_and, k1.2.2.2.1 j hj, ab_bnot _ hj, ab_sh1 (by omega) hj]
        by_cases e : j = k
        · rw [if_pos e, e, decide_eq_true rfl, hsk]; rfl
        · rw [if_neg e, decide_eq_false e]; cases sd j <;> rfl
      have hs' : ∀ j, (fun j => if j = k then !sd k else sd j) j = true → j < N := fun j hj => by
        have hj : (if j = k then !sd k else sd j) = true := hj
        by_cases e : j = k
        · omega
        · rw [if_neg e] at hj; exact hs.1.2.2.2.2.1 j hj
      obtain ⟨J2, f2, k2, F2, h2, u2⟩ := k_turn (d := d + 12) (w := w) (n := n) (nc := nc) (ns := ns) (L := L) hT k1 F1 (k := k) (why := 3) h1 (by omega) (by omega) hk (by omega) hx hs'
      obtain ⟨J3, f3, k3, u3⟩ := k_ways (d := d + 12) (w := w) (n := n) (nc := nc) (ns := ns) (L := L) hT k2 F2
      have f2' : kaf J2 J1 := kaf_trans (kaf_rg f2) (fun c hc => by rw [ab_up_o (fun e => hc (by rw [e]; unfold kac knc; decide))])
      have fJ : kaf J3 I := kaf_trans (kaf_wy f3) (kaf_trans f2' f1)
      have r4 : J3 kx_forest 4 = nI (S - (net e1 e2 (fun j => if j = k then !sd k else sd j) l).length) := k3.2.2.2.2.1
      refine ⟨nI (S - (net e1 e2 (fun j => if j = k then !sd k else sd j) l).length), J3, ?_, fun L n nc ns => ?_⟩
      · refine ab_C_of (by decide) rfl (Nat.le_of_ble_eq_true rfl) hT ?_
        refine r_K_breaks_0 hT _ (Nat.le_refl _) (Nat.le_refl _) ?_
        rw [c1, nl_bit _ (show k < 32 by omega), sk, ← r4]
        exact bb_f a1 (bb_f a2 (bb_t hsk ⟨_, u1, _, u2, _, u3, rfl⟩))
      · obtain ⟨K1, g1, g0, m1, n1, M1, v1⟩ := b_keep (d := d + 14) (w := w) (n := n) (nc := nc) (ns := ns) (L := L) hT fJ hs
        have hh : mH (K1 mx_now) E h := by rw [n1]; exact hs.2.2.2.1
        obtain ⟨K2, g2, m2, hh2, v2⟩ := z_turnsNow (d := d + 9) (w := w) (n := n) (nc := nc) (ns := ns) (L := L) hT m1 (nB_24 hs.1) hh (by omega) hk
        obtain ⟨K3, g3, v3⟩ := z_piecesNow (d := d + 10) (w := w) (n := n) (nc := nc) (ns := ns) (L := L) hT m2
        have zI : J3 mx_now = I mx_now := kaf_ge fJ (by decide)
        have nx := nxE_le (A := nB e1 e2 sd l) (B := nB e1 e2 (fun j => if j = k then !sd k else sd j) l) (E := E)
        rw [if_pos hsk] at hh2
        refine ⟨K3, ?_, RR_act (o' := o') hs ht hi fJ (maf_trans (maf_mf g3) (maf_trans (maf_ma g2) g1)) k3 ?_ ?_ (mC_fr g3 m2) (by rw [mfr_now g3]; exact hh2) ?_ (aX_told x1 nx.1 (fun a ha => by rw [xl a ha]; omega) (fun j hj => nxH_old j hj)) (by omega)⟩
        · refine ab_C_of (by decide) rfl (Nat.le_of_ble_eq_true rfl) hT ?_
          refine r_M_breaks_0 hT _ (Nat.le_refl _) (Nat.le_refl _) ?_
          refine ⟨_, _, ?_, rfl⟩
          refine ab_C_of (by decide) rfl (Nat.le_of_ble_eq_true rfl) hT ?_
          refine r_M_turns_0 hT _ _ (Nat.le_refl _) (Nat.le_refl _) ?_
          rw [zI, z1, nl_bit _ (show k < 32 by omega), sm]
          exact bb_f a1 (bb_f a3 (bb_t hsk (bb_t rfl ⟨_, v1, _, v2, _, _, v3, rfl⟩)))
        · rw [xe]
          exact cH_cong (f3 _ (by decide) (by decide) (by decide) (by decide) (by decide)) (f3 _ (by decide) (by decide) (by decide) (by decide) (by decide)) h2
        · have zz : ∀ c, c = kx_now_acts ∨ c = kx_now_acts_prices ∨ c = kx_now_acts_counts ∨ c = kx_now_acts_sounds ∨ c = kx_now_acts_swaps → J3 c = J1 c := fun c hc => by
            rcases hc with e | e | e | e | e <;> subst e <;> rw [f3 _ (by decide) (by decide) (by decide) (by decide) (by decide), f2 _ (by decide) (by decide) (by decide) (by decide) (by decide), ab_up_o (by decide)]
          exact aK_cong (zz _ (by decide)) (zz _ (by decide)) (zz _ (by decide)) (zz _ (by decide)) (zz _ (by decide)) A1
        · refine ⟨by rw [g3.2 41 (by unfold mkf; decide), g2.2 41 (by unfold mkf; decide)]; exact M1.1, M1.2.1, fun a ha j hj => ?_⟩
          rw [g3.1 _ (by unfold mscr; decide), g2.1 _ (by unfold mscr; decide) (by decide)]; exact M1.2.2 a ha j hj
    · refine ⟨-1, (ab_up I kx_now_refused 1 (I kx_now_refused 1 + 1)), ?_, fun L n nc ns => ⟨_, ?_, ref⟩⟩
      · refine ab_C_of (by decide) rfl (Nat.le_of_ble_eq_true rfl) hT ?_
        refine r_K_breaks_0 hT _ (Nat.le_refl _) (Nat.le_refl _) ?_
        rw [c1, nl_bit _ (show k < 32 by omega), sk]
        exact bb_f a1 (bb_f a2 (bb_f hsk rfl))
      · refine ab_C_of (by decide) rfl (Nat.le_of_ble_eq_true rfl) hT ?_
        refine r_M_breaks_0 hT _ (Nat.le_refl _) (Nat.le_refl _) ?_
        refine ⟨_, _, ?_, rfl⟩
        refine ab_C_of (by decide) rfl (Nat.le_of_ble_eq_true rfl) hT ?_
        refine r_M_turns_0 hT _ _ (Nat.le_refl _) (Nat.le_refl _) ?_
        rw [zJ, z1, nl_bit _ (show k < 32 by omega), sm]
        exact bb_f a1 (bb_f a3 (bb_f hsk (bb_f (by decide) rfl)))
  · refine ⟨-1, (ab_up I kx_now_refused 1 (I kx_now_refused 1 + 1)), ?_, fun L n nc ns => ⟨_, ?_, ref⟩⟩
    · refine ab_C_of (by decide) rfl (Nat.le_of_ble_eq_true rfl) hT ?_
      refine r_K_breaks_0 hT _ (Nat.le_refl _) (Nat.le_refl _) ?_
      exact bb_t hv rfl
    · refine ab_C_of (by decide) rfl (Nat.le_of_ble_eq_true rfl) hT ?_
      refine r_M_breaks_0 hT _ (Nat.le_refl _) (Nat.le_refl _) ?_
      refine ⟨_, _, ?_, rfl⟩
      refine ab_C_of (by decide) rfl (Nat.le_of_ble_eq_true rfl) hT ?_
      refine r_M_turns_0 hT _ _ (Nat.le_refl _) (Nat.le_refl _) ?_
      exact bb_t hv rfl
  · refine ⟨-1, (ab_up I kx_now_refused 1 (I kx_now_refused 1 + 1)), ?_, fun L n nc ns => ⟨_, ?_, ref⟩⟩
    · refine ab_C_of (by decide) rfl (Nat.le_of_ble_eq_true rfl) hT ?_
      refine r_K_breaks_0 hT _ (Nat.le_refl _) (Nat.le_refl _) ?_
      rw [c1]
      exact bb_f hv1 (bb_t hv2 rfl)
    · refine ab_C_of (by decide) rfl (Nat.le_of_ble_eq_true rfl) hT ?_
      refine r_M_breaks_0 hT _ (Nat.le_refl _) (Nat.le_refl _) ?_
      refine ⟨_, _, ?_, rfl⟩
      refine ab_C_of (by decide) rfl (Nat.le_of_ble_eq_true rfl) hT ?_
      refine r_M_turns_0 hT _ _ (Nat.le_refl _) (Nat.le_refl _) ?_
      rw [zJ, z1]
      exact bb_f hv1 (bb_t hv3 rfl)
theorem j_mend (hT : w.1.stackTraces = false) (g : RR I T) (hT9 : T ≤ 1000) (v : Int32) : jA w (d + 16) mt_K_mend mt_M_mend [.int v] I L n nc ns (T + 1) := by
  obtain ⟨S, ⟨N, sd, e1, e2, pr, fm, l, E, h, o, m, ac, rr, mn, cb, ib, hs, hn⟩, ht, hi⟩ := id g
  have c1 : I kx_now_cables 1 = nI N := hs.1.1.2.1
  have z1 : I mx_now 0 = nI N := hs.2.1.1.2.1
  have p4 := hs.1.1.2.2.2.1
  have hE := hs.2.2.2.2.2.2.2.1
  have ref := ref_ok (i := 1) (Or.inl rfl) g
  have zJ : (ab_up I kx_now_refused 1 (I kx_now_refused 1 + 1)) mx_now = I mx_now := by rw [ab_up_o (by decide)]
  rcases v_rng v N (by omega) with ⟨k, hk, e⟩ | hv | ⟨hv1, hv2, hv3, hv4⟩
  · subst e
    obtain ⟨a1, a2, a3, a4⟩ := v_rg1 hk (by omega)
    have sk := hs.1.2.2.2.1 k (by omega)
    have sm := hs.2.1.2.2.1 k (by omega)
    by_cases hsk : sd k = true
    · refine ⟨-1, (ab_up I kx_now_refused 1 (I kx_now_refused 1 + 1)), ?_, fun L n nc ns => ⟨_, ?_, ref⟩⟩
      · refine ab_C_of (by decide) rfl (Nat.le_of_ble_eq_true rfl) hT ?_
        refine r_K_mend_0 hT _ (Nat.le_refl _) (Nat.le_refl _) ?_
        rw [c1, nl_bit _ (show k < 32 by omega), sk]
        exact bb_f a1 (bb_f a2 (bb_t hsk rfl))
      · refine ab_C_of (by decide) rfl (Nat.le_of_ble_eq_true rfl) hT ?_
        refine r_M_mend_0 hT _ (Nat.le_refl _) (Nat.le_refl _) ?_
        refine ⟨_, _, ?_, rfl⟩
        refine ab_C_of (by decide) rfl (Nat.le_of_ble_eq_true rfl) hT ?_
        refine r_M_turns_0 hT _ _ (Nat.le_refl _) (Nat.le_refl _) ?_
        rw [zJ, z1, nl_bit _ (show k < 32 by omega), sm]
        exact bb_f a1 (bb_f a3 (bb_t hsk (bb_f (by decide) rfl)))
    · obtain ⟨J1, o', f1, k1, F1, A1, h1, b9, x1, xl, xe, u1⟩ := a_keep (d := d + 13) (w := w) (n := n) (nc := nc) (ns := ns) (L := L) hT hs hn
      have hx : ∀ j, j < 32 → bt ((J1 kx_now_cables 2) ||| ((1 : Int32) <<< (nI k &&& 31))) j = (fun j => if j = k then !sd k else sd j) j := fun j hj => by
        show _ = if j = k then !sd k else sd j
        rw [b_or, k1.2.2.2.1 j hj, ab_sh1 (by omega) hj]
        by_cases e : j = k
        · rw [if_pos e, e, decide_eq_true rfl, Bool.or_true]; cases hq : sd k <;> simp_all
        · rw [if_neg e, decide_eq_false e]; cases sd j <;> rfl
      have hs' : ∀ j, (fun j => if j = k then !sd k else sd j) j = true → j < N := fun j hj => by
        have hj : (if j = k then !sd k else sd j) = true := hj
        by_cases e : j = k
        · omega
        · rw [if_neg e] at hj; exact hs.1.2.2.2.2.1 j hj
      obtain ⟨J2, f2, k2, F2, h2, u2⟩ := k_turn (d := d + 12) (w := w) (n := n) (nc := nc) (ns := ns) (L := L) hT k1 F1 (k := k) (why := 4) h1 (by omega) (by omega) hk (by omega) hx hs'
      obtain ⟨J3, f3, k3, u3⟩ := k_ways (d := d + 12) (w := w) (n := n) (nc := nc) (ns := ns) (L := L) hT k2 F2
      have f2' : kaf J2 J1 := kaf_trans (kaf_rg f2) (fun c hc => by rw [ab_up_o (fun e => hc (by rw [e]; unfold kac knc; decide))])
      have fJ : kaf J3 I := kaf_trans (kaf_wy f3) (kaf_trans f2' f1)
      have r4 : J3 kx_forest 4 = nI (S - (net e1 e2 (fun j => if j = k then !sd k else sd j) l).length) := k3.2.2.2.2.1
      refine ⟨nI (S - (net e1 e2 (fun j => if j = k then !sd k else sd j) l).length), J3, ?_, fun L n nc ns => ?_⟩
      · refine ab_C_of (by decide) rfl (Nat.le_of_ble_eq_true rfl) hT ?_
        refine r_K_mend_0 hT _ (Nat.le_refl _) (Nat.le_refl _) ?_
        rw [c1, nl_bit _ (show k < 32 by omega), sk, ← r4]
        exact bb_f a1 (bb_f a2 (bb_f hsk ⟨_, u1, _, u2, _, u3, rfl⟩))
      · obtain ⟨K1, g1, g0, m1, n1, M1, v1⟩ := b_keep (d := d + 14) (w := w) (n := n) (nc := nc) (ns := ns) (L := L) hT fJ hs
        have hh : mH (K1 mx_now) E h := by rw [n1]; exact hs.2.2.2.1
        obtain ⟨K2, g2, m2, hh2, v2⟩ := z_turnsNow (d := d + 9) (w := w) (n := n) (nc := nc) (ns := ns) (L := L) hT m1 (nB_24 hs.1) hh (by omega) hk
        obtain ⟨K3, g3, v3⟩ := z_piecesNow (d := d + 10) (w := w) (n := n) (nc := nc) (ns := ns) (L := L) hT m2
        have zI : J3 mx_now = I mx_now := kaf_ge fJ (by decide)
        have nx := nxE_le (A := nB e1 e2 sd l) (B := nB e1 e2 (fun j => if j = k then !sd k else sd j) l) (E := E)
        rw [if_neg hsk] at hh2
        refine ⟨K3, ?_, RR_act (o' := o') hs ht hi fJ (maf_trans (maf_mf g3) (maf_trans (maf_ma g2) g1)) k3 ?_ ?_ (mC_fr g3 m2) (by rw [mfr_now g3]; exact hh2) ?_ (aX_told x1 nx.1 (fun a ha => by rw [xl a ha]; omega) (fun j hj => nxH_old j hj)) (by omega)⟩
        · refine ab_C_of (by decide) rfl (Nat.le_of_ble_eq_true rfl) hT ?_
          refine r_M_mend_0 hT _ (Nat.le_refl _) (Nat.le_refl _) ?_
          refine ⟨_, _, ?_, rfl⟩
          refine ab_C_of (by decide) rfl (Nat.le_of_ble_eq_true rfl) hT ?_
          refine r_M_turns_0 hT _ _ (Nat.le_refl _) (Nat.le_refl _) ?_
          rw [zI, z1, nl_bit _ (show k < 32 by omega), sm]
          exact bb_f a1 (bb_f a3 (bb_f hsk (bb_t rfl ⟨_, v1, _, v2, _, _, v3, rfl⟩)))
        · rw [xe]
          exact cH_cong (f3 _ (by decide) (by decide) (by decide) (by decide) (by decide)) (f3 _ (by decide) (by decide) (by decide) (by decide) (by decide)) h2
        · have zz : ∀ c, c = kx_now_acts ∨ c = kx_now_acts_prices ∨ c = kx_now_acts_counts ∨ c = kx_now_acts_sounds ∨ c = kx_now_acts_swaps → J3 c = J1 c := fun c hc => by
            rcases hc with e | e | e | e | e <;> subst e <;> rw [f3 _ (by decide) (by decide) (by decide) (by decide) (by decide), f2 _ (by decide) (by decide) (by decide) (by decide) (by decide), ab_up_o (by decide)]
          exact aK_cong (zz _ (by decide)) (zz _ (by decide)) (zz _ (by decide)) (zz _ (by decide)) (zz _ (by decide)) A1
        · refine ⟨by rw [g3.2 41 (by unfold mkf; decide), g2.2 41 (by unfold mkf; decide)]; exact M1.1, M1.2.1, fun a ha j hj => ?_⟩
          rw [g3.1 _ (by unfold mscr; decide), g2.1 _ (by unfold mscr; decide) (by decide)]; exact M1.2.2 a ha j hj
  · refine ⟨-1, (ab_up I kx_now_refused 1 (I kx_now_refused 1 + 1)), ?_, fun L n nc ns => ⟨_, ?_, ref⟩⟩
    · refine ab_C_of (by decide) rfl (Nat.le_of_ble_eq_true rfl) hT ?_
      refine r_K_mend_0 hT _ (Nat.le_refl _) (Nat.le_refl _) ?_
      exact bb_t hv rfl
    · refine ab_C_of (by decide) rfl (Nat.le_of_ble_eq_true rfl) hT ?_
      refine r_M_mend_0 hT _ (Nat.le_refl _) (Nat.le_refl _) ?_
      refine ⟨_, _, ?_, rfl⟩
      refine ab_C_of (by decide) rfl (Nat.le_of_ble_eq_true rfl) hT ?_
      refine r_M_turns_0 hT _ _ (Nat.le_refl _) (Nat.le_refl _) ?_
      exact bb_t hv rfl
  · refine ⟨-1, (ab_up I kx_now_refused 1 (I kx_now_refused 1 + 1)), ?_, fun L n nc ns => ⟨_, ?_, ref⟩⟩
    · refine ab_C_of (by decide) rfl (Nat.le_of_ble_eq_true rfl) hT ?_
      refine r_K_mend_0 hT _ (Nat.le_refl _) (Nat.le_refl _) ?_
      rw [c1]
      exact bb_f hv1 (bb_t hv2 rfl)
    · refine ab_C_of (by decide) rfl (Nat.le_of_ble_eq_true rfl) hT ?_
      refine r_M_mend_0 hT _ (Nat.le_refl _) (Nat.le_refl _) ?_
      refine ⟨_, _, ?_, rfl⟩
      refine ab_C_of (by decide) rfl (Nat.le_of_ble_eq_true rfl) hT ?_
      refine r_M_turns_0 hT _ _ (Nat.le_refl _) (Nat.le_refl _) ?_
      rw [zJ, z1]
      exact bb_f hv1 (bb_t hv3 rfl)
end JTU
