/-! PRICE side by side -/
section JPR
variable {w : ab_Wd} {d n nc ns : Nat} {I : Nat → Nat → Int32} {L : Nat → Nat → Int64}
variable {T : Nat}
theorem j_price (hT : w.1.stackTraces = false) (g : RR I T) (hT9 : T ≤ 1000) (v u : Int32) : jA w (d + 16) mt_K_price mt_M_price [.int v, .int u] I L n nc ns (T + 1) := by
  obtain ⟨S, ⟨N, sd, e1, e2, pr, fm, l, E, h, o, m, ac, rr, mn, cb, ib, hs, hn⟩, ht, hi⟩ := id g
  have c1 : I kx_now_cables 1 = nI N := hs.1.1.2.1
  have z1 : I mx_now 0 = nI N := hs.2.1.1.2.1
  have p4 := hs.1.1.2.2.2.1
  have hE := hs.2.2.2.2.2.2.2.1
  have ref := ref_ok (i := 1) (Or.inl rfl) g
  have zJ : (ab_up I kx_now_refused 1 (I kx_now_refused 1 + 1)) mx_now 0 = nI N := by rw [ab_up_o (by decide)]; exact z1
  rcases v_rng v N (by omega) with ⟨k, hk, e⟩ | hv | ⟨hv1, hv2, hv3, hv4⟩
  · subst e
    obtain ⟨a1, a2, a3, a4⟩ := v_rg1 hk (by omega)
    have q3 := (hs.1.1.2.2.2.2.2.2.2 k hk).2.2.1
    have q6 := (hs.1.1.2.2.2.2.2.2.2 k hk).2.2.2.2.2
    have r3 := (hs.2.1.1.2.2.2.2.2 k hk).2.2.1
    have ek : (51 + nI k) = nI (51 + k) := nl_add2 51 k
    rcases v_pr u with ⟨p, hp1, hp9, e, b1, b2⟩ | hu | ⟨hu1, hu2⟩
    · subst e
      by_cases hpe : pr k = p
      · refine ⟨-1, (ab_up I kx_now_refused 1 (I kx_now_refused 1 + 1)), ?_, fun L n nc ns => ⟨_, ?_, ref⟩⟩
        · refine ab_C_of (by decide) rfl (Nat.le_of_ble_eq_true rfl) hT ?_
          refine r_K_price_0 hT _ _ (Nat.le_refl _) (Nat.le_refl _) ?_
          rw [c1, nI_clamp (by omega), q3, hpe]
          exact bb_f a1 (bb_f a2 (bb_f b1 (bb_f b2 ⟨vp_in_nI (by omega) (by omega), bb_t' rfl rfl⟩)))
        · refine ab_C_of (by decide) rfl (Nat.le_of_ble_eq_true rfl) hT ?_
          refine r_M_price_0 hT _ _ (Nat.le_refl _) (Nat.le_refl _) ?_
          rw [zJ, ek, nI_clamp (by omega), show (ab_up I kx_now_refused 1 (I kx_now_refused 1 + 1)) mx_now (51 + k) = nI p by rw [ab_up_o (by decide), r3, hpe]]
          exact bb_f a1 (bb_f a3 (bb_f b1 (bb_f b2 ⟨vp_in_nI (by omega) (by omega), bb_t' rfl rfl⟩)))
      · obtain ⟨J1, o', f1, k1, F1, A1, h1, b9, x1, xl, xe, u1⟩ := a_keep (d := d + 13) (w := w) (n := n) (nc := nc) (ns := ns) (L := L) hT hs hn
        obtain ⟨J2, l', o2, f2, k2, F2, h2, u2⟩ := k_tellPrice (d := d + 11) (w := w) (n := n) (nc := nc) (ns := ns) (L := L) hT k1 F1 h1 (by omega) (by omega) hk hp1 hp9
        obtain ⟨J3, f3, k3, u3⟩ := k_ways (d := d + 12) (w := w) (n := n) (nc := nc) (ns := ns) (L := L) hT k2 F2
        have fJ : kaf J3 I := kaf_trans (kaf_wy f3) (kaf_trans (kaf_tp f2) f1)
        have hne : ¬ nI (pr k) = nI p := fun h => hpe ((nI_eq (by omega) (by omega)).mp h)
        refine ⟨nI (pr k), J3, ?_, fun L n nc ns => ?_⟩
        · refine ab_C_of (by decide) rfl (Nat.le_of_ble_eq_true rfl) hT ?_
          refine r_K_price_0 hT _ _ (Nat.le_refl _) (Nat.le_refl _) ?_
          rw [c1, nI_clamp (by omega), q3]
          exact bb_f a1 (bb_f a2 (bb_f b1 (bb_f b2 ⟨vp_in_nI (by omega) (by omega), bb_f' hne ⟨_, u1, _, u2, _, u3, rfl⟩⟩)))
        · obtain ⟨K1, g1, g0, m1, n1, M1, v1⟩ := b_keep (d := d + 15) (w := w) (n := n) (nc := nc) (ns := ns) (L := L) hT fJ hs
          have hh : mH (K1 mx_now) E h := by rw [n1]; exact hs.2.2.2.1
          obtain ⟨K2, g2, m2, hh2, v2⟩ := z_pricesNow (d := d + 10) (w := w) (n := n) (nc := nc) (ns := ns) (L := L) hT m1 (nB_24 hs.1) hh (by omega) hk hp1 hp9 o2
          have zI : J3 mx_now = I mx_now := kaf_ge fJ (by decide)
          have nx := nxE_le (A := nB e1 e2 sd l) (B := nB e1 e2 sd l') (E := E)
          refine ⟨K2, ?_, RR_act (o' := o') hs ht hi fJ (maf_trans (maf_ma g2) g1) k3 ?_ ?_ m2 hh2 ?_ (aX_told x1 nx.1 (fun a ha => by rw [xl a ha]; omega) (fun j hj => nxH_old j hj)) (by omega)⟩
          · refine ab_C_of (by decide) rfl (Nat.le_of_ble_eq_true rfl) hT ?_
            refine r_M_price_0 hT _ _ (Nat.le_refl _) (Nat.le_refl _) ?_
            rw [zI, z1, ek, nI_clamp (by omega), r3]
            refine bb_f a1 (bb_f a3 (bb_f b1 (bb_f b2 ⟨vp_in_nI (by omega) (by omega), bb_f' hne ⟨_, v1, _, v2, ?_⟩⟩)))
            rw [n1, r3]
          · rw [xe]
            exact cH_cong (f3 _ (by decide) (by decide) (by decide) (by decide) (by decide)) (f3 _ (by decide) (by decide) (by decide) (by decide) (by decide)) h2
          · have zz : ∀ c, c = kx_now_acts ∨ c = kx_now_acts_prices ∨ c = kx_now_acts_counts ∨ c = kx_now_acts_sounds ∨ c = kx_now_acts_swaps → J3 c = J1 c := fun c hc => by
              rcases hc with e | e | e | e | e <;> subst e <;> rw [f3 _ (by decide) (by decide) (by decide) (by decide) (by decide), f2 _ (by decide) (by decide) (by decide) (by decide) (by decide) (by decide) (by decide)]
            exact aK_cong (zz _ (by decide)) (zz _ (by decide)) (zz _ (by decide)) (zz _ (by decide)) (zz _ (by decide)) A1
          · refine ⟨by rw [g2.2 41 (by unfold mkf; decide)]; exact M1.1, M1.2.1, fun a ha j hj => ?_⟩
            rw [g2.1 _ (by unfold mscr; decide) (by decide)]; exact M1.2.2 a ha j hj
    · refine ⟨-1, (ab_up I kx_now_refused 1 (I kx_now_refused 1 + 1)), ?_, fun L n nc ns => ⟨_, ?_, ref⟩⟩
      · refine ab_C_of (by decide) rfl (Nat.le_of_ble_eq_true rfl) hT ?_
        refine r_K_price_0 hT _ _ (Nat.le_refl _) (Nat.le_refl _) ?_
        rw [c1]
        exact bb_f a1 (bb_f a2 (bb_t hu rfl))
      · refine ab_C_of (by decide) rfl (Nat.le_of_ble_eq_true rfl) hT ?_
        refine r_M_price_0 hT _ _ (Nat.le_refl _) (Nat.le_refl _) ?_
        rw [zJ]
        exact bb_f a1 (bb_f a3 (bb_t hu rfl))
    · refine ⟨-1, (ab_up I kx_now_refused 1 (I kx_now_refused 1 + 1)), ?_, fun L n nc ns => ⟨_, ?_, ref⟩⟩
      · refine ab_C_of (by decide) rfl (Nat.le_of_ble_eq_true rfl) hT ?_
        refine r_K_price_0 hT _ _ (Nat.le_refl _) (Nat.le_refl _) ?_
        rw [c1]
        exact bb_f a1 (bb_f a2 (bb_f hu1 (bb_t hu2 rfl)))
      · refine ab_C_of (by decide) rfl (Nat.le_of_ble_eq_true rfl) hT ?_
        refine r_M_price_0 hT _ _ (Nat.le_refl _) (Nat.le_refl _) ?_
        rw [zJ]
        exact bb_f a1 (bb_f a3 (bb_f hu1 (bb_t hu2 rfl)))
  · refine ⟨-1, (ab_up I kx_now_refused 1 (I kx_now_refused 1 + 1)), ?_, fun L n nc ns => ⟨_, ?_, ref⟩⟩
    · refine ab_C_of (by decide) rfl (Nat.le_of_ble_eq_true rfl) hT ?_
      refine r_K_price_0 hT _ _ (Nat.le_refl _) (Nat.le_refl _) ?_
      exact bb_t hv rfl
    · refine ab_C_of (by decide) rfl (Nat.le_of_ble_eq_true rfl) hT ?_
      refine r_M_price_0 hT _ _ (Nat.le_refl _) (Nat.le_refl _) ?_
      exact bb_t hv rfl
  · refine ⟨-1, (ab_up I kx_now_refused 1 (I kx_now_refused 1 + 1)), ?_, fun L n nc ns => ⟨_, ?_, ref⟩⟩
    · refine ab_C_of (by decide) rfl (Nat.le_of_ble_eq_true rfl) hT ?_
      refine r_K_price_0 hT _ _ (Nat.le_refl _) (Nat.le_refl _) ?_
      rw [c1]
      exact bb_f hv1 (bb_t hv2 rfl)
    · refine ab_C_of (by decide) rfl (Nat.le_of_ble_eq_true rfl) hT ?_
      refine r_M_price_0 hT _ _ (Nat.le_refl _) (Nat.le_refl _) ?_
      rw [zJ]
      exact bb_f hv1 (bb_t hv3 rfl)
end JPR
