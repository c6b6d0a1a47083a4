/-! UNDO side by side -/
section JUN
variable {w : ab_Wd} {d n nc ns : Nat} {I : Nat → Nat → Int32} {L : Nat → Nat → Int64}
variable {T : Nat}
theorem j_undo (hT : w.1.stackTraces = false) (g : RR I T) : jA w (d + 16) mt_K_undo mt_M_undo [] I L n nc ns (T + 1) := by
  obtain ⟨S, ⟨N, sd, e1, e2, pr, fm, l, E, h, o, m, ac, rr, mn, cb, ib, hs, hn⟩, ht, hi⟩ := id g
  obtain ⟨y1, y2, y3, y4, y5, y6, y7, y8, y9, y10, y11⟩ := id hs
  cases m with
  | zero =>
    refine ⟨-1, I, ?_, fun L n nc ns => ⟨_, z_undo0 (d := d + 16) (w := w) (n := n) (nc := nc) (ns := ns) (L := L) hT y6, RR_q (Nat.le_succ T) kfr_refl mgr_c g⟩⟩
    refine ab_C_of (by decide) rfl (Nat.le_of_ble_eq_true rfl) hT ?_
    refine r_K_undo_0 hT (Nat.le_refl _) (Nat.le_refl _) ?_
    exact bb_t' y5.2.2.1 rfl
  | succ m =>
    obtain ⟨⟨x1, x2, x3, x4, x5⟩, x6, x7⟩ := y7.1 m (by omega)
    obtain ⟨J1, l', od', k1, a1, f1, u1⟩ := k_takeBack (d := d + 14) (w := w) (n := n) (nc := nc) (ns := ns) (L := L) hT y1 y5 x6 x3 (fun k hk => ⟨(x4 k hk).2.2.2.2.1, (x4 k hk).2.2.2.2.2⟩)
    have fu : ∀ c, c ≠ kx_now_swaps → (ab_up J1 kx_now_swaps 1 (nI (ac m).2.2.2)) c = J1 c := fun c hc => ab_up_o hc
    obtain ⟨J2, f2, k2, u2⟩ := k_settle (d := d + 11) (w := w) (n := n) (nc := nc) (ns := ns) (L := L) hT (kC_cong (fu _ (by decide)) (fu _ (by decide)) (fu _ (by decide)) (fu _ (by decide)) (fu _ (by decide)) (fu _ (by decide)) k1)
    have fJ : kaf J2 I := fun c hc => by
      rw [f2 c (fun e => hc (by unfold kac; simp only [e, or_true])), fu c (fun e => hc (by rw [e]; unfold kac knc; decide))]
      exact f1 c (fun e => hc (by rw [e]; unfold kac knc; decide)) (fun e => hc (by rw [e]; unfold kac knc; decide)) (fun e => hc (by rw [e]; unfold kac knc; decide)) (fun e => hc (by rw [e]; unfold kac knc; decide))
    have fA : ∀ c, (¬ knc c ∧ c ≠ kx_now_swaps) → J2 c = J1 c := fun c hc => by rw [f2 c hc.1, fu c hc.2]
    have a2 : aK J2 o m ac := aK_cong (fA _ (by unfold knc; decide)) (fA _ (by unfold knc; decide)) (fA _ (by unfold knc; decide)) (fA _ (by unfold knc; decide)) (fA _ (by unfold knc; decide)) a1
    refine ⟨nI m, J2, ?_, fun L n nc ns => ?_⟩
    · refine ab_C_of (by decide) rfl (Nat.le_of_ble_eq_true rfl) hT ?_
      refine r_K_undo_0 hT (Nat.le_refl _) (Nat.le_refl _) ?_
      refine bb_f' (fun h => ?_) ⟨_, _, u1, _, u2, by rw [a2.2.2.1]⟩
      rw [y5.2.2.1] at h
      have := (nI_eq (b := 0) (by have := y5.2.2.2.1; omega) (by omega)).mp h
      omega
    · have zM : ∀ c, mx ≤ c → J2 c = I c := fun c hc => kaf_ge fJ hc
      have hM : aM J2 (m + 1) rr := by
        refine ⟨by rw [zM mx (Nat.le_refl _)]; exact y6.1, y6.2.1, fun a ha j hj => by rw [zM mx_past (by decide)]; exact y6.2.2 a ha j hj⟩
      obtain ⟨K, b1, b2, b3, b4, b5, b6⟩ := z_undo (d := d + 16) (w := w) (n := n) (nc := nc) (ns := ns) (L := L) hT hM
      have hw : ∀ k, k < (ac m).1 → e1 k < S ∧ e2 k < S ∧ fm k < 4 ∧ e1 k ≠ e2 k := fun k hk => by
        have q := y1.1.2.2.2.2.2.2.2 k (by omega)
        have q' := y1.2.2.2.2.2 k (by omega)
        exact ⟨q.2.2.2.1, q.2.2.2.2.1, q'.2.1, q'.2.2.2⟩
      obtain ⟨m1, m2⟩ := mC_back (I := K) ⟨x1, x2, x3, x4, x5⟩ (by rw [b2 2 (by decide) (by decide), zM mx (Nat.le_refl _)]; exact y2.1.1) y1.2.2.1 y1.1.2.2.1 (by have := y1.1.2.2.2.1; omega) hw od' b4
      have e0u := e0_undo y7
      refine ⟨K, b6, RR_act hs ht hi fJ ⟨fun c h1 h2 _ => b1 c (fun e => h1 (by rw [e]; exact Or.inl rfl)) h2, fun k _ h2 h3 => b2 k h2 h3⟩ k2 ?_ a2 m1 m2 b5 (aX_undo y7) (by omega)⟩
      exact cH_back y3 e0u.1 e0u.2 x7 (by rw [f2 _ (by unfold knc; decide), ab_up_i, pk_us]) (by rw [fA _ (by unfold knc; decide)]; exact f1 _ (by decide) (by decide) (by decide) (by decide))
end JUN
