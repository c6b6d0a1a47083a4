/-! IMAGE and RESTORE side by side -/
section JIM
variable {w : ab_Wd} {d n nc ns : Nat} {I : Nat → Nat → Int32} {L : Nat → Nat → Int64}
variable {S T N : Nat} {sd : Nat → Bool} {e1 e2 pr fm : Nat → Nat} {l : List Nat}
theorem kC_rng {J : Nat → Nat → Int32} (q2 : ∀ k, k < 3 → J kx_now_cables k = I kx_now_cables k) (q3 : ∀ k, k < 24 → J kx_now_cables_first k = I kx_now_cables_first k) (q4 : ∀ k, k < 24 → J kx_now_cables_second k = I kx_now_cables_second k) (q5 : ∀ k, k < 24 → J kx_now_cables_price k = I kx_now_cables_price k) (q6 : ∀ k, k < 24 → J kx_now_cables_firm k = I kx_now_cables_firm k) (q7 : ∀ k, k < 24 → J kx_now_cables_order k = I kx_now_cables_order k) (hc : kC I S N sd e1 e2 pr fm l) : kC J S N sd e1 e2 pr fm l := by
  obtain ⟨⟨p1, p2, p3, p4, p5, p6, p7, p8⟩, c2, c3, c4, c5, c6⟩ := hc
  exact ⟨⟨by rw [q2 0 (by omega)]; exact p1, by rw [q2 1 (by omega)]; exact p2, p3, p4, p5, fun i hi => by rw [q7 i (by omega)]; exact p6 i hi, p7, fun k hk => by rw [q3 k (by omega), q4 k (by omega), q5 k (by omega)]; exact p8 k hk⟩, c2, c3, fun k hk => by rw [q2 2 (by omega)]; exact c4 k hk, c5, fun k hk => by rw [q6 k (by omega)]; exact c6 k hk⟩
theorem j_image (hT : w.1.stackTraces = false) (g : RR I T) : jV w (d + 16) mt_K_image mt_M_image I L n nc ns (T + 1) := by
  obtain ⟨J0, f0, a0, a1, a2, a3, a4, b1, b2, b3, b4, b5, b6, b7, b8, b9, b10, b11, u0⟩ := k_keep (d := d + 13) (w := w) (n := n) (nc := nc) (ns := ns) (L := L) (I := I) hT
  obtain ⟨S, ⟨N, sd, e1, e2, pr, fm, l, E, h, o, m, ac, rr, mn, cb, ib, hs, hn⟩, ht, hi⟩ := g
  have fJ : ∀ c, ¬ ic c → J0 c = I c := fun c hc => f0 c (fun e => hc (by rw [e]; unfold ic; decide)) (fun e => hc (by rw [e]; unfold ic; decide)) (fun e => hc (by rw [e]; unfold ic; decide)) (fun e => hc (by rw [e]; unfold ic; decide)) (fun e => hc (by rw [e]; unfold ic; decide)) (fun e => hc (by rw [e]; unfold ic; decide)) (fun e => hc (by rw [e]; unfold ic; decide)) (fun e => hc (by rw [e]; unfold ic; decide)) (fun e => hc (by rw [e]; unfold ic; decide)) (fun e => hc (by rw [e]; unfold ic; decide)) (fun e => hc (by rw [e]; unfold ic; decide)) (fun e => hc (by rw [e]; unfold ic; decide)) (fun e => hc (by rw [e]; unfold ic; decide)) (fun e => hc (by rw [e]; unfold ic; decide)) (fun e => hc (by rw [e]; unfold ic; decide))
  refine ⟨ab_up J0 kx 5 1, ?_, fun L n nc ns => ?_⟩
  · refine ab_C_of (by decide) rfl (Nat.le_of_ble_eq_true rfl) hT ?_
    refine r_K_image_0 hT (Nat.le_refl _) (Nat.le_refl _) ?_
    exact ⟨_, u0, rfl⟩
  obtain ⟨K0, hK0⟩ : ∃ K, K = ab_up (ab_up (ab_up (ab_up (ab_up J0 kx 5 1) mx 1 0) mx 52 1) mx 53 ((ab_up J0 kx 5 1) mx 41)) mx 54 ((ab_up J0 kx 5 1) mx 43) := ⟨_, rfl⟩
  obtain ⟨K1, p1, q1, v1⟩ := z_cp4 (d := d + 15) (w := w) (n := n) (nc := nc) (ns := ns) (L := L) (I := K0) hT
  obtain ⟨K2, p2, q2, v2⟩ := z_cp5 (d := d + 15) (w := w) (n := n) (nc := nc) (ns := ns) (L := L) (I := K1) hT
  obtain ⟨K3, p3, q3, v3⟩ := z_cp6 (d := d + 15) (w := w) (n := n) (nc := nc) (ns := ns) (L := L) (I := K2) hT
  obtain ⟨K4, p4, q4, v4⟩ := z_cp7 (d := d + 15) (w := w) (n := n) (nc := nc) (ns := ns) (L := L) (I := K3) hT
  obtain ⟨K5, p5, q5, v5⟩ := z_cp8 (d := d + 15) (w := w) (n := n) (nc := nc) (ns := ns) (L := L) (I := K4) hT
  have s0 : ∀ c, c ≠ mx → c ≠ kx → K0 c = J0 c := fun c h1 h2 => by rw [hK0, ab_up_o h1, ab_up_o h1, ab_up_o h1, ab_up_o h1, ab_up_o h2]
  have s5 : ∀ c, (c ≠ mx_imageRow ∧ c ≠ mx_pastThen ∧ c ≠ mx_notedCableThen ∧ c ≠ mx_notedInThen ∧ c ≠ mx_statusThen) → K5 c = K0 c := fun c h => by rw [p5 c h.2.2.2.2, p4 c h.2.2.2.1, p3 c h.2.2.1, p2 c h.2.1, p1 c h.1]
  have zz : ∀ c, ¬ ic c → c ≠ mx → c ≠ kx → K5 c = I c := fun c h1 h2 h3 => by
    rw [s5 c ⟨fun e => h1 (by rw [e]; unfold ic; decide), fun e => h1 (by rw [e]; unfold ic; decide), fun e => h1 (by rw [e]; unfold ic; decide), fun e => h1 (by rw [e]; unfold ic; decide), fun e => h1 (by rw [e]; unfold ic; decide)⟩, s0 c h2 h3, fJ c h1]
  have z : ∀ c, (¬ ic c ∧ c ≠ mx ∧ c ≠ kx) → K5 c = I c := fun c h => zz c h.1 h.2.1 h.2.2
  have kxe : ∀ k, k ≠ 5 → K5 kx k = I kx k := fun k hk => by
    rw [s5 kx (by decide), hK0, ab_up_o (by decide), ab_up_o (by decide), ab_up_o (by decide), ab_up_o (by decide), ab_up_i, pk_un hk, fJ kx (by unfold ic; decide)]
  have kx5 : K5 kx 5 = 1 := by
    rw [s5 kx (by decide), hK0, ab_up_o (by decide), ab_up_o (by decide), ab_up_o (by decide), ab_up_o (by decide), ab_up_i, pk_us]
  have jm : ∀ k, (ab_up J0 kx 5 1) mx k = I mx k := fun k => by rw [ab_up_o (by decide), fJ mx (by unfold ic; decide)]
  have mxe : ∀ k, k ≠ 1 → k ≠ 52 → k ≠ 53 → k ≠ 54 → K5 mx k = I mx k := fun k k1 k2 k3 k4 => by
    rw [s5 mx (by decide), hK0, ab_up_i, pk_un k4, ab_up_i, pk_un k3, ab_up_i, pk_un k2, ab_up_i, pk_un k1]; exact jm k
  have m52 : K5 mx 52 = 1 := by rw [s5 mx (by decide), hK0, ab_up_i, pk_un (by decide), ab_up_i, pk_un (by decide), ab_up_i, pk_us]
  have m53 : K5 mx 53 = I mx 41 := by rw [s5 mx (by decide), hK0, ab_up_i, pk_un (by decide), ab_up_i, pk_us]; exact jm 41
  have m54 : K5 mx 54 = I mx 43 := by rw [s5 mx (by decide), hK0, ab_up_i, pk_us]; exact jm 43
  have hr := hs.2.2.2.2.2.2.2.2.2.2
  have r5 : rfE K5 := by
    unfold rfE
    rw [z kx_now_refused (by unfold ic; decide), z mx_status (by unfold ic; decide)]; exact hr
  have n1 : ∀ k, k < 399 → K5 mx_imageRow k = I mx_now k := fun k hk => by
    rw [p5 _ (by decide), p4 _ (by decide), p3 _ (by decide), p2 _ (by decide), q1 k hk, s0 _ (by decide) (by decide), fJ _ (by unfold ic; decide)]
  have n2 : ∀ k, k < 15960 → K5 mx_pastThen k = I mx_past k := fun k hk => by
    rw [p5 _ (by decide), p4 _ (by decide), p3 _ (by decide), q2 k hk, p1 _ (by decide), s0 _ (by decide) (by decide), fJ _ (by unfold ic; decide)]
  have n3 : ∀ k, k < 8 → K5 mx_notedCableThen k = I mx_notedCable k := fun k hk => by
    rw [p5 _ (by decide), p4 _ (by decide), q3 k hk, p2 _ (by decide), p1 _ (by decide), s0 _ (by decide) (by decide), fJ _ (by unfold ic; decide)]
  have n4 : ∀ k, k < 8 → K5 mx_notedInThen k = I mx_notedIn k := fun k hk => by
    rw [p5 _ (by decide), q4 k hk, p3 _ (by decide), p2 _ (by decide), p1 _ (by decide), s0 _ (by decide) (by decide), fJ _ (by unfold ic; decide)]
  have n5 : ∀ k, k < 3 → K5 mx_statusThen k = I mx_status k := fun k hk => by
    rw [q5 k hk, p4 _ (by decide), p3 _ (by decide), p2 _ (by decide), p1 _ (by decide), s0 _ (by decide) (by decide), fJ _ (by unfold ic; decide)]
  have kk : ∀ c, (c ≠ mx_imageRow ∧ c ≠ mx_pastThen ∧ c ≠ mx_notedCableThen ∧ c ≠ mx_notedInThen ∧ c ≠ mx_statusThen) ∧ c ≠ mx ∧ c ≠ kx → K5 c = J0 c := fun c h => by rw [s5 c h.1, s0 c h.2.1 h.2.2]
  refine ⟨K5, ?_, S, ⟨N, sd, e1, e2, pr, fm, l, E, h, o, m, ac, rr, mn, cb, ib, SP_T (Nat.le_succ T) (SP_cong (I := I) ?_ r5 hs), kN_cong (fun c hc => ?_) hn⟩, TP_fr (kxe 1 (by decide)) (kxe 2 (by decide)) (mxe 17 (by decide) (by decide) (by decide) (by decide)) (mxe 8 (by decide) (by decide) (by decide) (by decide)) (z _ (by unfold ic; decide)) (z _ (by unfold ic; decide)) ht, by rw [kx5, m52], Or.inr ⟨kx5, N, sd, e1, e2, pr, fm, l, E, h, o, m, ac, rr, mn, cb, ib, SP_T (Nat.le_succ T) (SP_cong (I := I) ?_ ?_ hs)⟩⟩
  · refine ab_C_of (by decide) rfl (Nat.le_of_ble_eq_true rfl) hT ?_
    refine r_M_image_0 hT (Nat.le_refl _) (Nat.le_refl _) ?_
    rw [← hK0]
    exact ⟨_, v1, _, v2, _, v3, _, v4, _, v5, rfl⟩
  · unfold ceq
    rw [z kx_now (by unfold ic; decide), z kx_now_cables (by unfold ic; decide), z kx_now_cables_first (by unfold ic; decide), z kx_now_cables_second (by unfold ic; decide), z kx_now_cables_price (by unfold ic; decide), z kx_now_cables_firm (by unfold ic; decide), z kx_now_cables_order (by unfold ic; decide), z kx_now_swaps (by unfold ic; decide), z kx_now_swaps_rows (by unfold ic; decide), z kx_now_acts (by unfold ic; decide), z kx_now_acts_prices (by unfold ic; decide), z kx_now_acts_counts (by unfold ic; decide), z kx_now_acts_sounds (by unfold ic; decide), z kx_now_acts_swaps (by unfold ic; decide), z mx_now (by unfold ic; decide), z mx_past (by unfold ic; decide), z mx_notedCable (by unfold ic; decide), z mx_notedIn (by unfold ic; decide)]
    exact ⟨fun _ _ _ => rfl, fun _ _ => rfl, fun _ _ => rfl, fun _ _ => rfl, fun _ _ => rfl, fun _ _ => rfl, fun _ _ => rfl, rfl, fun _ _ => rfl, rfl, rfl, fun _ _ => rfl, fun _ _ => rfl, fun _ _ => rfl, fun _ _ => rfl, fun _ _ => rfl, fun _ _ => rfl, fun _ _ => rfl, fun _ _ => rfl, mxe 2 (by decide) (by decide) (by decide) (by decide), mxe 41 (by decide) (by decide) (by decide) (by decide), mxe 43 (by decide) (by decide) (by decide) (by decide)⟩
  · unfold knc at hc
    rcases hc with e | e | e | e | e | e | e | e <;> subst e <;> exact z _ (by unfold ic; decide)
  · obtain ⟨⟨w1, w2, w3, w4, w5, w6, w7, w8, w9⟩, ⟨x1, x2, x3, x4, x5, x6⟩, ⟨y1, y2, y3, y4, y5⟩⟩ := vw_all (I := K5)
    unfold ceq
    rw [w1, w2, w3, w4, w5, w6, w7, w8, w9, x1, x2, x3, x4, x5, y1, y2, y3, y4, kk kx_kept (by decide), kk kx_kept_cables (by decide), kk kx_kept_cables_first (by decide), kk kx_kept_cables_second (by decide), kk kx_kept_cables_price (by decide), kk kx_kept_cables_firm (by decide), kk kx_kept_cables_order (by decide), kk kx_kept_swaps (by decide), kk kx_kept_swaps_rows (by decide), kk kx_kept_acts (by decide), kk kx_kept_acts_prices (by decide), kk kx_kept_acts_counts (by decide), kk kx_kept_acts_sounds (by decide), kk kx_kept_acts_swaps (by decide)]
    refine ⟨a0, a1, b1, b2, b3, b4, b5, a2, b6, a3, a4, b7, b8, b9, b10, n1, n2, n3, n4, ?_, ?_, ?_⟩
    · rw [vw_mx, if_neg (by decide), if_neg (by decide)]; exact mxe 2 (by decide) (by decide) (by decide) (by decide)
    · rw [vw_mx, if_pos rfl]; exact m53
    · rw [vw_mx, if_neg (by decide), if_pos rfl]; exact m54
  · obtain ⟨⟨w1, w2, w3, w4, w5, w6, w7, w8, w9⟩, ⟨x1, x2, x3, x4, x5, x6⟩, ⟨y1, y2, y3, y4, y5⟩⟩ := vw_all (I := K5)
    unfold rfE
    rw [x6, y5, kk kx_kept_refused (by decide), b11 0 (by decide), b11 1 (by decide), b11 2 (by decide), n5 0 (by decide), n5 1 (by decide), n5 2 (by decide)]
    exact hr
/-- the cells of now, but for the net -/
def nc0 (c : Nat) : Prop := c = kx_now ∨ c = kx_now_refused ∨ kac c
theorem j_restore (hT : w.1.stackTraces = false) (g : RR I T) : jA w (d + 16) mt_K_restore mt_M_restore [] I L n nc ns (T + 1) := by
  obtain ⟨S, nw, ht, him⟩ := id g
  obtain ⟨i1, i2⟩ := id him
  rcases i2 with i2 | ⟨i2, N, sd, e1, e2, pr, fm, l, E, h, o, m, ac, rr, mn, cb, ib, hs⟩
  · refine ⟨0, I, ?_, fun L n nc ns => ⟨ab_up I mx 1 0, ?_, RR_q (Nat.le_succ T) kfr_refl mgr_c g⟩⟩
    · refine ab_C_of (by decide) rfl (Nat.le_of_ble_eq_true rfl) hT ?_
      refine r_K_restore_0 hT (Nat.le_refl _) (Nat.le_refl _) ?_
      exact bb_t' i2 rfl
    · refine ab_C_of (by decide) rfl (Nat.le_of_ble_eq_true rfl) hT ?_
      refine r_M_restore_0 hT (Nat.le_refl _) (Nat.le_refl _) ?_
      exact bb_t' (by rw [← i1]; exact i2) rfl
  obtain ⟨J0, f0, a0, a1, a2, a3, a4, b1, b2, b3, b4, b5, b6, b7, b8, b9, b10, b11, u0⟩ := k_back (d := d + 13) (w := w) (n := n) (nc := nc) (ns := ns) (L := L) (I := I) hT
  obtain ⟨⟨w1, w2, w3, w4, w5, w6, w7, w8, w9⟩, ⟨x1, x2, x3, x4, x5, x6⟩, ⟨y1, y2, y3, y4, y5⟩⟩ := vw_all (I := I)
  have k0 : kC J0 S N sd e1 e2 pr fm l := kC_rng (I := vw I) (by rw [w2]; exact a1) (by rw [w3]; exact b1) (by rw [w4]; exact b2) (by rw [w5]; exact b3) (by rw [w6]; exact b4) (by rw [w7]; exact b5) hs.1
  obtain ⟨J1, f1, k1, u1⟩ := k_settle (d := d + 11) (w := w) (n := n) (nc := nc) (ns := ns) (L := L) hT k0
  have i3 : ¬ I kx 5 = 0 := by rw [i2]; decide
  have i4 : ¬ I mx 52 = 0 := by rw [← i1]; exact i3
  refine ⟨1, J1, ?_, fun L n nc ns => ?_⟩
  · refine ab_C_of (by decide) rfl (Nat.le_of_ble_eq_true rfl) hT ?_
    refine r_K_restore_0 hT (Nat.le_refl _) (Nat.le_refl _) ?_
    exact bb_f' i3 ⟨_, u0, _, u1, rfl⟩
  have fJ : ∀ c, ¬ nc0 c → J1 c = I c := fun c hc => by
    rw [f1 c (fun e => hc (by unfold nc0 kac; simp only [e, or_true]))]
    exact f0 c (fun e => hc (by rw [e]; unfold nc0 kac knc; decide)) (fun e => hc (by rw [e]; unfold nc0 kac knc; decide)) (fun e => hc (by rw [e]; unfold nc0 kac knc; decide)) (fun e => hc (by rw [e]; unfold nc0 kac knc; decide)) (fun e => hc (by rw [e]; unfold nc0 kac knc; decide)) (fun e => hc (by rw [e]; unfold nc0 kac knc; decide)) (fun e => hc (by rw [e]; unfold nc0 kac knc; decide)) (fun e => hc (by rw [e]; unfold nc0 kac knc; decide)) (fun e => hc (by rw [e]; unfold nc0 kac knc; decide)) (fun e => hc (by rw [e]; unfold nc0 kac knc; decide)) (fun e => hc (by rw [e]; unfold nc0 kac knc; decide)) (fun e => hc (by rw [e]; unfold nc0 kac knc; decide)) (fun e => hc (by rw [e]; unfold nc0 kac knc; decide)) (fun e => hc (by rw [e]; unfold nc0 kac knc; decide)) (fun e => hc (by rw [e]; unfold nc0 kac knc; decide))
  have zM : ∀ c, mx ≤ c → J1 c = I c := fun c hc => fJ c (fun e => by
    rcases e with e | e | e
    · rw [e] at hc; exact absurd hc (by decide)
    · rw [e] at hc; exact absurd hc (by decide)
    · have := kac_lt e; omega)
  obtain ⟨K0, hK0⟩ : ∃ K, K = ab_up (ab_up (ab_up J1 mx 1 0) mx 41 (J1 mx 53)) mx 43 (J1 mx 54) := ⟨_, rfl⟩
  obtain ⟨K1, p1, q1, v1⟩ := z_cp9 (d := d + 15) (w := w) (n := n) (nc := nc) (ns := ns) (L := L) (I := K0) hT
  obtain ⟨K2, p2, q2, v2⟩ := z_cp11 (d := d + 15) (w := w) (n := n) (nc := nc) (ns := ns) (L := L) (I := K1) hT
  obtain ⟨K3, p3, q3, v3⟩ := z_cp12 (d := d + 15) (w := w) (n := n) (nc := nc) (ns := ns) (L := L) (I := K2) hT
  obtain ⟨K4, p4, q4, v4⟩ := z_cp13 (d := d + 15) (w := w) (n := n) (nc := nc) (ns := ns) (L := L) (I := K3) hT
  obtain ⟨K5, p5, q5, v5⟩ := z_cp10 (d := d + 15) (w := w) (n := n) (nc := nc) (ns := ns) (L := L) (I := K4) hT
  have s0 : ∀ c, c ≠ mx → K0 c = J1 c := fun c h1 => by rw [hK0, ab_up_o h1, ab_up_o h1, ab_up_o h1]
  have s5 : ∀ c, (c ≠ mx_now ∧ c ≠ mx_past ∧ c ≠ mx_notedCable ∧ c ≠ mx_notedIn ∧ c ≠ mx_status) → K5 c = K0 c := fun c h => by rw [p5 c h.2.2.2.2, p4 c h.2.2.2.1, p3 c h.2.2.1, p2 c h.2.1, p1 c h.1]
  have kk : ∀ c, (c ≠ mx_now ∧ c ≠ mx_past ∧ c ≠ mx_notedCable ∧ c ≠ mx_notedIn ∧ c ≠ mx_status) ∧ c ≠ mx → K5 c = J1 c := fun c h => by rw [s5 c h.1, s0 c h.2]
  have kj : ∀ c, ((c ≠ mx_now ∧ c ≠ mx_past ∧ c ≠ mx_notedCable ∧ c ≠ mx_notedIn ∧ c ≠ mx_status) ∧ c ≠ mx) ∧ ¬ knc c → K5 c = J0 c := fun c h => by rw [kk c h.1, f1 c h.2]
  have mxe : ∀ k, k ≠ 1 → k ≠ 41 → k ≠ 43 → K5 mx k = I mx k := fun k k1 k2 k3 => by
    rw [s5 mx (by decide), hK0, ab_up_i, pk_un k3, ab_up_i, pk_un k2, ab_up_i, pk_un k1, zM mx (Nat.le_refl _)]
  have m41 : K5 mx 41 = I mx 53 := by rw [s5 mx (by decide), hK0, ab_up_i, pk_un (by decide), ab_up_i, pk_us, zM mx (Nat.le_refl _)]
  have m43 : K5 mx 43 = I mx 54 := by rw [s5 mx (by decide), hK0, ab_up_i, pk_us, zM mx (Nat.le_refl _)]
  have n1 : ∀ k, k < 399 → K5 mx_now k = I mx_imageRow k := fun k hk => by
    rw [p5 _ (by decide), p4 _ (by decide), p3 _ (by decide), p2 _ (by decide), q1 k hk, s0 _ (by decide), zM _ (by decide)]
  have n2 : ∀ k, k < 15960 → K5 mx_past k = I mx_pastThen k := fun k hk => by
    rw [p5 _ (by decide), p4 _ (by decide), p3 _ (by decide), q2 k hk, p1 _ (by decide), s0 _ (by decide), zM _ (by decide)]
  have n3 : ∀ k, k < 8 → K5 mx_notedCable k = I mx_notedCableThen k := fun k hk => by
    rw [p5 _ (by decide), p4 _ (by decide), q3 k hk, p2 _ (by decide), p1 _ (by decide), s0 _ (by decide), zM _ (by decide)]
  have n4 : ∀ k, k < 8 → K5 mx_notedIn k = I mx_notedInThen k := fun k hk => by
    rw [p5 _ (by decide), q4 k hk, p3 _ (by decide), p2 _ (by decide), p1 _ (by decide), s0 _ (by decide), zM _ (by decide)]
  have n5 : ∀ k, k < 3 → K5 mx_status k = I mx_statusThen k := fun k hk => by
    rw [q5 k hk, p4 _ (by decide), p3 _ (by decide), p2 _ (by decide), p1 _ (by decide), s0 _ (by decide), zM _ (by decide)]
  have hr := hs.2.2.2.2.2.2.2.2.2.2
  have zk : ∀ c, (((c ≠ mx_now ∧ c ≠ mx_past ∧ c ≠ mx_notedCable ∧ c ≠ mx_notedIn ∧ c ≠ mx_status) ∧ c ≠ mx) ∧ ¬ nc0 c) → K5 c = I c := fun c h => by rw [kk c h.1, fJ c h.2]
  have kx' := zk kx (by unfold nc0 kac knc; decide)
  refine ⟨K5, ?_, S, ⟨N, sd, e1, e2, pr, fm, l, E, h, o, m, ac, rr, mn, cb, ib, SP_T (Nat.le_succ T) (SP_cong (I := vw I) ?_ ?_ hs), kN_cong (fun c hc => ?_) k1.2⟩, TP_fr (by rw [kx']) (by rw [kx']) (mxe 17 (by decide) (by decide) (by decide)) (mxe 8 (by decide) (by decide) (by decide)) (zk _ (by unfold nc0 kac knc; decide)) (zk _ (by unfold nc0 kac knc; decide)) ht, IM_fr (Nat.le_succ T) (fun c hc => ?_) (by rw [kx']) (mxe 2 (by decide) (by decide) (by decide)) (mxe 52 (by decide) (by decide) (by decide)) (mxe 53 (by decide) (by decide) (by decide)) (mxe 54 (by decide) (by decide) (by decide)) him⟩
  · refine ab_C_of (by decide) rfl (Nat.le_of_ble_eq_true rfl) hT ?_
    refine r_M_restore_0 hT (Nat.le_refl _) (Nat.le_refl _) ?_
    rw [zM mx (Nat.le_refl _)]
    refine bb_f' i4 ⟨_, ?_, _, v2, _, v3, _, v4, _, v5, rfl⟩
    rw [hK0, zM mx (Nat.le_refl _)] at v1
    exact v1
  · unfold ceq
    rw [w1, w2, w3, w4, w5, w6, w7, w8, w9, x1, x2, x3, x4, x5, y1, y2, y3, y4, kj kx_now (by unfold knc; decide), kj kx_now_cables (by unfold knc; decide), kj kx_now_cables_first (by unfold knc; decide), kj kx_now_cables_second (by unfold knc; decide), kj kx_now_cables_price (by unfold knc; decide), kj kx_now_cables_firm (by unfold knc; decide), kj kx_now_cables_order (by unfold knc; decide), kj kx_now_swaps (by unfold knc; decide), kj kx_now_swaps_rows (by unfold knc; decide), kj kx_now_acts (by unfold knc; decide), kj kx_now_acts_prices (by unfold knc; decide), kj kx_now_acts_counts (by unfold knc; decide), kj kx_now_acts_sounds (by unfold knc; decide), kj kx_now_acts_swaps (by unfold knc; decide)]
    refine ⟨a0, a1, b1, b2, b3, b4, b5, a2, b6, a3, a4, b7, b8, b9, b10, n1, n2, n3, n4, ?_, ?_, ?_⟩
    · rw [vw_mx, if_neg (by decide), if_neg (by decide)]; exact mxe 2 (by decide) (by decide) (by decide)
    · rw [vw_mx, if_pos rfl]; exact m41
    · rw [vw_mx, if_neg (by decide), if_pos rfl]; exact m43
  · unfold rfE at *
    rw [x6, y5] at hr
    rw [kj kx_now_refused (by unfold knc; decide), b11 0 (by decide), b11 1 (by decide), b11 2 (by decide), n5 0 (by decide), n5 1 (by decide), n5 2 (by decide)]
    exact hr
  · unfold knc at hc
    rcases hc with e | e | e | e | e | e | e | e <;> subst e <;> exact kk _ (by decide)
  · unfold ic at hc
    rcases hc with e | e | e | e | e | e | e | e | e | e | e | e | e | e | e | e | e | e | e | e <;> subst e <;> exact zk _ (by unfold nc0 kac knc; decide)
end JIM
