/-! YEARS side by side: the loops -/
def jB (w : ab_Wd) (d : Nat) (mk mm : ab_Me) (as : List Value) (I : Nat → Nat → Int32) (L : Nat → Nat → Int64) (n nc ns : Nat) (T : Nat) : Prop := ∃ r J, ab_PU w d mk (.ref kx :: as) I L n nc ns r J ∧ ∀ L n nc ns, ∃ K, ab_PU w d mm (.ref mx :: as) J L n nc ns r K ∧ K mx 1 = 0 ∧ RR K T
section JY2
variable {w : ab_Wd} {d n nc ns : Nat} {I : Nat → Nat → Int32} {L : Nat → Nat → Int64}
variable {S T N : Nat} {sd : Nat → Bool} {e1 e2 pr fm : Nat → Nat} {l : List Nat}
theorem nxE_add {A B : Nat → Bool} {E c : Nat} : nxE A B (E + c) = E + nxE A B c := by
  by_cases e : ∀ j, A j = B j
  · rw [(nx_t (why := 0) (k := 0) (tot := 0) (h := fun _ _ => 0) e).1, (nx_t (why := 0) (k := 0) (tot := 0) (h := fun _ _ => 0) e).1]
  · rw [(nx_f (why := 0) (k := 0) (tot := 0) (h := fun _ _ => 0) e).1, (nx_f (why := 0) (k := 0) (tot := 0) (h := fun _ _ => 0) e).1]; omega
theorem y_piecesNow (hT : w.1.stackTraces = false) (hm : mC I S N sd e1 e2 pr fm l) : ∃ J, nm_st J I S pr (kr e1 e2 (l.filter sd)) ∧ ab_PU w (d + 4) mt_M_piecesNow [.ref mx] I L n nc ns (nI (S - (net e1 e2 sd l).length)) J := by
  obtain ⟨J, r, g1, g2, g3⟩ := z_netNow (d := d) (w := w) (n := n) (nc := nc) (ns := ns) (L := L) hT hm
  refine ⟨J, g1, ?_⟩
  have hl := net_le hm.1 sd
  refine ab_C_of (by decide) rfl (Nat.le_of_ble_eq_true rfl) hT ?_
  refine r_M_piecesNow_0 hT (Nat.le_refl _) (Nat.le_refl _) ?_
  refine ⟨_, _, g3, ?_⟩
  rw [g1.2.1 2 (by decide) (by decide), hm.1.1, g1.2.2.1, show nI S - nI (kr e1 e2 (l.filter sd)).1.length = nI (S - (net e1 e2 sd l).length) from nI_sub hl]
theorem y_totalNow (hT : w.1.stackTraces = false) (hm : mC I S N sd e1 e2 pr fm l) : ∃ J, nm_st J I S pr (kr e1 e2 (l.filter sd)) ∧ ab_PU w (d + 4) mt_M_totalNow [.ref mx] I L n nc ns (nI ((net e1 e2 sd l).map pr).sum) J := by
  obtain ⟨J, r, g1, g2, g3⟩ := z_netNow (d := d) (w := w) (n := n) (nc := nc) (ns := ns) (L := L) hT hm
  refine ⟨J, g1, ?_⟩
  refine ab_C_of (by decide) rfl (Nat.le_of_ble_eq_true rfl) hT ?_
  refine r_M_totalNow_0 hT (Nat.le_refl _) (Nat.le_refl _) ?_
  refine ⟨_, _, g3, ?_⟩
  rw [g1.2.2.2.1]; rfl
theorem RR_w {K : Nat → Nat → Int32} {T' : Nat} (hT : T ≤ T') (z : ∀ c, ¬ kscr c → ¬ mscr c → c ≠ mx_now → K c = I c) (zm : ∀ k, mkf k → k ≠ 1 → K mx k = I mx k) (zn : ∀ k, k < 399 → K mx_now k = I mx_now k) (g : RR I T) : RR K T' := by
  obtain ⟨S, ⟨N, sd, e1, e2, pr, fm, l, E, h, o, m, ac, rr, mn, cb, ib, hs, hn⟩, ht, hi⟩ := g
  have zz : ∀ c, (¬ kscr c ∧ ¬ mscr c ∧ c ≠ mx_now) → K c = I c := fun c h => z c h.1 h.2.1 h.2.2
  have m2 := zm 2 (by unfold mkf; decide) (by decide)
  have m8 := zm 8 (by unfold mkf; decide) (by decide)
  have m17 := zm 17 (by unfold mkf; decide) (by decide)
  have m41 := zm 41 (by unfold mkf; decide) (by decide)
  have m43 := zm 43 (by unfold mkf; decide) (by decide)
  have m52 := zm 52 (by unfold mkf; decide) (by decide)
  have m53 := zm 53 (by unfold mkf; decide) (by decide)
  have m54 := zm 54 (by unfold mkf; decide) (by decide)
  have kx' := zz kx (by unfold kscr mscr; decide)
  refine ⟨S, ⟨N, sd, e1, e2, pr, fm, l, E, h, o, m, ac, rr, mn, cb, ib, SP_T hT (SP_cong (I := I) ?_ ?_ hs), kN_cong (fun c hc => ?_) hn⟩, TP_fr (by rw [kx']) (by rw [kx']) m17 m8 (zz _ (by unfold kscr mscr; decide)) (zz _ (by unfold kscr mscr; decide)) ht, IM_fr hT (fun c hc => ?_) (by rw [kx']) m2 m52 m53 m54 hi⟩
  · unfold ceq
    rw [zz kx_now (by unfold kscr mscr; decide), zz kx_now_cables (by unfold kscr mscr; decide), zz kx_now_cables_first (by unfold kscr mscr; decide), zz kx_now_cables_second (by unfold kscr mscr; decide), zz kx_now_cables_price (by unfold kscr mscr; decide), zz kx_now_cables_firm (by unfold kscr mscr; decide), zz kx_now_cables_order (by unfold kscr mscr; decide), zz kx_now_swaps (by unfold kscr mscr; decide), zz kx_now_swaps_rows (by unfold kscr mscr; decide), zz kx_now_acts (by unfold kscr mscr; decide), zz kx_now_acts_prices (by unfold kscr mscr; decide), zz kx_now_acts_counts (by unfold kscr mscr; decide), zz kx_now_acts_sounds (by unfold kscr mscr; decide), zz kx_now_acts_swaps (by unfold kscr mscr; decide), zz mx_past (by unfold kscr mscr; decide), zz mx_notedCable (by unfold kscr mscr; decide), zz mx_notedIn (by unfold kscr mscr; decide)]
    exact ⟨fun _ _ _ => rfl, fun _ _ => rfl, fun _ _ => rfl, fun _ _ => rfl, fun _ _ => rfl, fun _ _ => rfl, fun _ _ => rfl, rfl, fun _ _ => rfl, rfl, rfl, fun _ _ => rfl, fun _ _ => rfl, fun _ _ => rfl, fun _ _ => rfl, zn, fun _ _ => rfl, fun _ _ => rfl, fun _ _ => rfl, m2, m41, m43⟩
  · have hr := hs.2.2.2.2.2.2.2.2.2.2
    unfold rfE at *
    rw [zz kx_now_refused (by unfold kscr mscr; decide), zz mx_status (by unfold kscr mscr; decide)]
    exact hr
  · unfold knc at hc
    rcases hc with e | e | e | e | e | e | e | e <;> subst e <;> exact zz _ (by unfold kscr mscr; decide)
  · unfold ic at hc
    rcases hc with e | e | e | e | e | e | e | e | e | e | e | e | e | e | e | e | e | e | e | e <;> subst e <;> exact zz _ (by unfold kscr mscr; decide)
theorem k_yearsLoop (hT : w.1.stackTraces = false) {s : Ys} {u q : Nat} {v : Int32} (hu : u ≤ 60) (hq : q < 3) (hN : N ≤ 24) (hw : ∀ k, k < N → e1 k < S ∧ e2 k < S) : ∀ t i (J : Nat → Nat → Int32), i + t = u → tY J S N e1 e2 (ysI N s i) → ∃ J', kfr J' J ∧ ab_E w ((d + 15) + 1) mt_K_years 76 [.ref kx, .int v, .int (nI u), .int (nI q), .int (nI (yE N e1 e2 s i)), .int ((ysI N s i).1), .int (nI i), .null] [] (J, L, ab_RR, n, nc, ns) (.inl (some (.int (nI (ywh S N e1 e2 s u q)))), (J', L, ab_RR, n, nc, ns)) := by
  intro t
  induction t with
  | zero =>
    intro i J hi h
    have e : i = u := by omega
    subst e
    obtain ⟨h0, h1, h2, h3, h4, h5, h6⟩ := h
    refine ⟨J, kfr_refl, ?_⟩
    refine r_K_years_76 hT _ _ _ _ _ _ (by omega) (Nat.le_refl _) (Nat.le_refl _) ?_
    refine bb_t (nI_le (Nat.le_refl _) (by omega)) ?_
    unfold ywh
    have hq : q = 0 ∨ q = 1 ∨ q = 2 := by omega
    rcases hq with e | e | e <;> subst e
    · exact bb_t' rfl (by rw [if_pos rfl, h5])
    · exact bb_f' (by decide) (bb_t' rfl rfl)
    · exact bb_f' (by decide) (bb_f' (by decide) (by rw [if_neg (by decide), if_neg (by decide), h6]))
  | succ t ih =>
    intro i J hi h
    obtain ⟨J2, f2, h2, u2⟩ := k_passYear (d := d + 11) (w := w) (n := n) (nc := nc) (ns := ns) (L := L) hT h
    obtain ⟨J', f3, u3⟩ := ih (i + 1) J2 (by omega) h2
    refine ⟨J', kfr_trans f3 f2, ?_⟩
    have bs : J2 kx_trialNet 2 = J kx_trialNet 2 ↔ ∀ j, yB N e1 e2 (ysI N s i) j = yB N e1 e2 (ysI N s (i + 1)) j := by
      constructor
      · intro e j
        by_cases hj : j < 32
        · rw [← h.2.2.2.2.1 j hj, ← e]; exact h2.2.2.2.2.1 j hj
        · rw [yB_24 hN hw j (by omega), yB_24 hN hw j (by omega)]
      · intro e
        refine b_ext fun j hj => ?_
        rw [h2.2.2.2.2.1 j hj, h.2.2.2.2.1 j hj]; exact (e j).symm
    refine r_K_years_76 hT _ _ _ _ _ _ (by omega) (Nat.le_refl _) (Nat.le_refl _) ?_
    refine bb_f (fun h => by have := (nI_leI (by omega) (by omega)).mp h; omega) ⟨_, _, u2, ?_⟩
    by_cases e : ∀ j, yB N e1 e2 (ysI N s i) j = yB N e1 e2 (ysI N s (i + 1)) j
    · have ee : yE N e1 e2 s (i + 1) = yE N e1 e2 s i := (nx_t (why := 0) (k := 0) (tot := 0) (h := fun _ _ => 0) e).1
      rw [ee] at u3
      refine bb_t (bs.mpr e) ?_
      rw [nI_1]; exact u3
    · have ee : yE N e1 e2 s (i + 1) = yE N e1 e2 s i + 1 := (nx_f (why := 0) (k := 0) (tot := 0) (h := fun _ _ => 0) e).1
      rw [ee] at u3
      refine bb_f (fun h => e (bs.mp h)) ?_
      rw [nI_1, nI_1]; exact u3
/-- what the model's years leave -/
def myr (K J : Nat → Nat → Int32) : Prop := (∀ c, c ≠ mx → c ≠ mx_piece → c ≠ mx_taken → c ≠ mx_now → K c = J c) ∧ ∀ k, k ≠ 21 → k ≠ 22 → k ≠ 50 → K mx k = J mx k
theorem myr_trans {K J I : Nat → Nat → Int32} (h : myr K J) (g : myr J I) : myr K I := ⟨fun c h1 h2 h3 h4 => (h.1 c h1 h2 h3 h4).trans (g.1 c h1 h2 h3 h4), fun k h1 h2 h3 => (h.2 k h1 h2 h3).trans (g.2 k h1 h2 h3)⟩
theorem myr_nm {J : Nat → Nat → Int32} {s : List Nat × (Nat → Nat)} (h : nm_st J I S pr s) : myr J I := ⟨fun c a b c' _ => h.1 c a b c', fun k h1 h2 _ => h.2.1 k h1 h2⟩
theorem myr_n {J K : Nat → Nat → Int32} (h : ∀ a, a ≠ mx_now → K a = J a) : myr K J := ⟨fun c _ _ _ h4 => h c h4, fun k _ _ _ => by rw [h mx (by decide)]⟩
theorem z_yearsLoop (hT : w.1.stackTraces = false) {s : Ys} {u q E : Nat} {v : Int32} (hu : u ≤ 60) (hq : q < 3) (hE9 : E < 2 ^ 29) : ∀ t i (K : Nat → Nat → Int32) (h : Nat → Nat → Nat), i + t = u → mC K S N (ysI N s i).2.2 e1 e2 (ysI N s i).2.1 fm (lo (ysI N s i).2.1 N) → mH (K mx_now) (E + yE N e1 e2 s i) h → K mx 50 = (ysI N s i).1 → K mx_rowThen 2 = nI E → ∃ K', myr K' K ∧ (∀ x, x < 399 → K' mx_now x = K mx_rowThen x) ∧ ab_E w ((d + 15) + 1) mt_M_years 55 [.ref mx, .int v, .int (nI u), .int (nI q), .int (nI i)] [] (K, L, ab_RR, n, nc, ns) (.inl (some (.int (nI (ywh S N e1 e2 s u q)))), (K', L, ab_RR, n, nc, ns)) := by
  intro t
  induction t with
  | zero =>
    intro i K h hi hm hH hx hr
    have e : i = u := by omega
    subst e
    unfold ywh
    have hq : q = 0 ∨ q = 1 ∨ q = 2 := by omega
    rcases hq with e | e | e <;> subst e
    · obtain ⟨K1, g1, u1⟩ := y_totalNow (d := d + 11) (w := w) (n := n) (nc := nc) (ns := ns) (L := L) hT hm
      obtain ⟨K2, f2, g2, u2⟩ := z_cp2 (d := d + 15) (w := w) (n := n) (nc := nc) (ns := ns) (L := L) (I := K1) hT
      refine ⟨K2, myr_trans (myr_n f2) (myr_nm g1), fun x hx => by rw [g2 x hx, g1.1 _ (by decide) (by decide) (by decide)], ?_⟩
      refine r_M_years_55 hT _ _ _ _ (Nat.le_refl _) (Nat.le_refl _) ?_
      refine bb_t (nI_le (Nat.le_refl _) (by omega)) (bb_t' rfl ⟨_, _, u1, _, u2, rfl⟩)
    · obtain ⟨K2, f2, g2, u2⟩ := z_cp2 (d := d + 15) (w := w) (n := n) (nc := nc) (ns := ns) (L := L) (I := K) hT
      refine ⟨K2, myr_n f2, g2, ?_⟩
      refine r_M_years_55 hT _ _ _ _ (Nat.le_refl _) (Nat.le_refl _) ?_
      refine bb_t (nI_le (Nat.le_refl _) (by omega)) (bb_f' (by decide) (bb_t' rfl ⟨_, u2, ?_⟩))
      rw [hH.1, hr, nI_sub (by omega), Nat.add_sub_cancel_left]; rfl
    · obtain ⟨K1, g1, u1⟩ := y_piecesNow (d := d + 11) (w := w) (n := n) (nc := nc) (ns := ns) (L := L) hT hm
      obtain ⟨K2, f2, g2, u2⟩ := z_cp2 (d := d + 15) (w := w) (n := n) (nc := nc) (ns := ns) (L := L) (I := K1) hT
      refine ⟨K2, myr_trans (myr_n f2) (myr_nm g1), fun x hx => by rw [g2 x hx, g1.1 _ (by decide) (by decide) (by decide)], ?_⟩
      refine r_M_years_55 hT _ _ _ _ (Nat.le_refl _) (Nat.le_refl _) ?_
      refine bb_t (nI_le (Nat.le_refl _) (by omega)) (bb_f' (by decide) (bb_f' (by decide) ⟨_, _, u1, _, u2, rfl⟩))
  | succ t ih =>
    intro i K h hi hm hH hx hr
    have ye := yE_le (N := N) (e1 := e1) (e2 := e2) (s := s) i
    obtain ⟨K1, h', a1, a2, a3, a4, a5, u1⟩ := z_happens (d := d + 9) (w := w) (n := n) (nc := nc) (ns := ns) (L := L) hT hm hH (by omega) hx
    rw [nxE_add] at a5
    obtain ⟨K2, f2, g2, u2⟩ := ih (i + 1) K1 h' (by omega) a4 a5 a3 (by rw [a1 _ (by decide) (by decide) (by decide) (by decide)]; exact hr)
    refine ⟨K2, myr_trans f2 ⟨a1, a2⟩, fun x hx => by rw [g2 x hx, a1 _ (by decide) (by decide) (by decide) (by decide)], ?_⟩
    refine r_M_years_55 hT _ _ _ _ (Nat.le_refl _) (Nat.le_refl _) ?_
    refine bb_f (fun h => by have := (nI_leI (by omega) (by omega)).mp h; omega) ⟨_, u1, ?_⟩
    rw [nI_1]; exact u2
theorem j_years (hT : w.1.stackTraces = false) (g : RR I T) (hT9 : T ≤ 1000) (v u q : Int32) : jB w (d + 16) mt_K_years mt_M_years [.int v, .int u, .int q] I L n nc ns (T + 1) ∨ qNo w (d + 16) mt_K_years mt_M_years [.int v, .int u, .int q] I L n nc ns I "java/util/NoSuchElementException" 1 ∨ qNo w (d + 16) mt_K_years mt_M_years [.int v, .int u, .int q] I L n nc ns I "java/lang/IllegalArgumentException" 2 := by
  obtain ⟨S, ⟨N, sd, e1, e2, pr, fm, l, E, h, o, m, ac, rr, mn, cb, ib, hs, hn⟩, ht, hi⟩ := id g
  obtain ⟨y1, y2, y3, y4, y5, y6, y7, y8, y9, y10, y11⟩ := id hs
  have el := lo_eq y1.2.1
  have p4 := y1.1.2.2.2.1
  have hw : ∀ k, k < N → e1 k < S ∧ e2 k < S := fun k hk => ⟨(y1.1.2.2.2.2.2.2.2 k hk).2.2.2.1, (y1.1.2.2.2.2.2.2.2 k hk).2.2.2.2.1⟩
  rcases v_cs q 2 (by decide) with ⟨a, ha, e, a1, a2⟩ | ⟨_, hout⟩
  case inr =>
    refine Or.inr (Or.inl ⟨kfr_refl, ?_, fun L n nc ns => ⟨0, _, mgr_x.1, mgr_x.2, ?_⟩⟩)
    · refine ab_C_of (by decide) rfl (Nat.le_of_ble_eq_true rfl) hT ?_
      refine r_K_years_0 hT _ _ _ (by omega) (Nat.le_add_right _ _) (Nat.le_add_right _ _) ?_
      rcases hout with h | ⟨h1, h2⟩
      · exact bb_t h rfl
      · exact bb_f h1 (bb_f (fun h => by rw [Int32.le_iff_toInt_le] at h; rw [Int32.lt_iff_toInt_lt] at h2; have : (nI 2).toInt = (2 : Int32).toInt := rfl; omega) rfl)
    · refine ab_C_of (by decide) rfl (Nat.le_of_ble_eq_true rfl) hT ?_
      refine r_M_years_0 hT _ _ _ (Nat.le_refl _) (Nat.le_refl _) ?_
      rcases hout with h | ⟨h1, h2⟩
      · exact bb_t h rfl
      · exact bb_f h1 (bb_t h2 rfl)
  subst e
  have a3 : nI a ≤ 2 := (nI_leI (b := 2) (by omega) (by omega)).mpr ha
  rcases v_cs u 60 (by decide) with ⟨b, hb, e, b1, b2⟩ | ⟨_, hout⟩
  case inr =>
    refine Or.inr (Or.inr ⟨kfr_refl, ?_, fun L n nc ns => ⟨0, _, mgr_x.1, mgr_x.2, ?_⟩⟩)
    · refine ab_C_of (by decide) rfl (Nat.le_of_ble_eq_true rfl) hT ?_
      refine r_K_years_0 hT _ _ _ (by omega) (Nat.le_add_right _ _) (Nat.le_add_right _ _) ?_
      rcases hout with h | ⟨h1, h2⟩
      · exact bb_f a1 (bb_t a3 (bb_t h rfl))
      · exact bb_f a1 (bb_t a3 (bb_f h1 (bb_f (fun h => by rw [Int32.le_iff_toInt_le] at h; rw [Int32.lt_iff_toInt_lt] at h2; have : (nI 60).toInt = (60 : Int32).toInt := rfl; omega) rfl)))
    · refine ab_C_of (by decide) rfl (Nat.le_of_ble_eq_true rfl) hT ?_
      refine r_M_years_0 hT _ _ _ (Nat.le_refl _) (Nat.le_refl _) ?_
      rcases hout with h | ⟨h1, h2⟩
      · exact bb_f a1 (bb_f a2 (bb_t h rfl))
      · exact bb_f a1 (bb_f a2 (bb_f h1 (bb_t h2 rfl)))
  subst e
  have b3 : nI b ≤ 60 := (nI_leI (b := 60) (by omega) (by omega)).mpr hb
  left
  obtain ⟨⟨p1, p2, p3, _, p5, p6, p7, p8⟩, c2, c3, c4, c5, c6⟩ := id y1
  have cp : ∃ J, kfr J I ∧ gr_pre J kx_trial kx_trial_first kx_trial_second kx_trial_price kx_trial_order S N e1 e2 pr l ∧ J kx_trial 2 = I kx_now_cables 2 ∧ ab_U w (d + 15) mt_Cables_copy [.ref kx_trial, .ref kx_now_cables] I L n nc ns J := by
    refine ⟨_, ?_, ⟨?_, ?_, p3, p4, p5, fun i hi => ?_, p7, fun k hk => ?_⟩, ?_, ab_C_of (by decide) rfl (Nat.le_of_ble_eq_true rfl) hT (r_Cables_copy_0_0 hT (Nat.le_refl _) (Nat.le_refl _) rfl)⟩
    · intro c hc
      have ne : ∀ c', kscr c' → c ≠ c' := fun c' h e => hc (e ▸ h)
      rw [ab_row_ne (ne _ (by unfold kscr; decide)), ab_row_ne (ne _ (by unfold kscr; decide)), ab_row_ne (ne _ (by unfold kscr; decide)), ab_row_ne (ne _ (by unfold kscr; decide)), ab_row_ne (ne _ (by unfold kscr; decide)), ab_up_o (ne _ (by unfold kscr; decide)), ab_up_o (ne _ (by unfold kscr; decide)), ab_up_o (ne _ (by unfold kscr; decide))]
    · simp (disch := first | omega | decide) only [p1, nl_add1, nl_add2, nl_mul1, nl_mul2, nl_sub1, nl_lt1, nl_lt2, nl_le1, nl_le2, nl_eq1, nl_eq2, nl_m1, nl_m2, nl_inT, nI_add, nI_mul, nI_leI, nI_ltI, nI_eq, nI_clamp, nl_bit, oI_n, oI_s, oI_m1, true_and, and_true, eq_self, Bool.false_eq_true, not_false_eq_true, not_true_eq_false, false_implies, true_implies, implies_true, forall_const, Nat.not_lt_zero, ab_row_eq, ab_row_ne, ab_up_i, ab_up_o, pk_us, pk_un, ab_row_row]
    · simp (disch := first | omega | decide) only [p2, nl_add1, nl_add2, nl_mul1, nl_mul2, nl_sub1, nl_lt1, nl_lt2, nl_le1, nl_le2, nl_eq1, nl_eq2, nl_m1, nl_m2, nl_inT, nI_add, nI_mul, nI_leI, nI_ltI, nI_eq, nI_clamp, nl_bit, oI_n, oI_s, oI_m1, true_and, and_true, eq_self, Bool.false_eq_true, not_false_eq_true, not_true_eq_false, false_implies, true_implies, implies_true, forall_const, Nat.not_lt_zero, ab_row_eq, ab_row_ne, ab_up_i, ab_up_o, pk_us, pk_un, ab_row_row]
    · have hi24 : i < 24 := by omega
      have := p6 i hi
      simp (disch := first | omega | decide) only [va_cpy_in, this, nl_add1, nl_add2, nl_mul1, nl_mul2, nl_sub1, nl_lt1, nl_lt2, nl_le1, nl_le2, nl_eq1, nl_eq2, nl_m1, nl_m2, nl_inT, nI_add, nI_mul, nI_leI, nI_ltI, nI_eq, nI_clamp, nl_bit, oI_n, oI_s, oI_m1, true_and, and_true, eq_self, Bool.false_eq_true, not_false_eq_true, not_true_eq_false, false_implies, true_implies, implies_true, forall_const, Nat.not_lt_zero, ab_row_eq, ab_row_ne, ab_up_i, ab_up_o, pk_us, pk_un, ab_row_row]
    · obtain ⟨q1, q2, q3, q4, q5, q6⟩ := p8 k hk
      have hk24 : k < 24 := by omega
      refine ⟨?_, ?_, ?_, q4, q5, q6⟩
      · simp (disch := first | omega | decide) only [va_cpy_in, q1, nl_add1, nl_add2, nl_mul1, nl_mul2, nl_sub1, nl_lt1, nl_lt2, nl_le1, nl_le2, nl_eq1, nl_eq2, nl_m1, nl_m2, nl_inT, nI_add, nI_mul, nI_leI, nI_ltI, nI_eq, nI_clamp, nl_bit, oI_n, oI_s, oI_m1, true_and, and_true, eq_self, Bool.false_eq_true, not_false_eq_true, not_true_eq_false, false_implies, true_implies, implies_true, forall_const, Nat.not_lt_zero, ab_row_eq, ab_row_ne, ab_up_i, ab_up_o, pk_us, pk_un, ab_row_row]
      · simp (disch := first | omega | decide) only [va_cpy_in, q2, nl_add1, nl_add2, nl_mul1, nl_mul2, nl_sub1, nl_lt1, nl_lt2, nl_le1, nl_le2, nl_eq1, nl_eq2, nl_m1, nl_m2, nl_inT, nI_add, nI_mul, nI_leI, nI_ltI, nI_eq, nI_clamp, nl_bit, oI_n, oI_s, oI_m1, true_and, and_true, eq_self, Bool.false_eq_true, not_false_eq_true, not_true_eq_false, false_implies, true_implies, implies_true, forall_const, Nat.not_lt_zero, ab_row_eq, ab_row_ne, ab_up_i, ab_up_o, pk_us, pk_un, ab_row_row]
      · simp (disch := first | omega | decide) only [va_cpy_in, q3, nl_add1, nl_add2, nl_mul1, nl_mul2, nl_sub1, nl_lt1, nl_lt2, nl_le1, nl_le2, nl_eq1, nl_eq2, nl_m1, nl_m2, nl_inT, nI_add, nI_mul, nI_leI, nI_ltI, nI_eq, nI_clamp, nl_bit, oI_n, oI_s, oI_m1, true_and, and_true, eq_self, Bool.false_eq_true, not_false_eq_true, not_true_eq_false, false_implies, true_implies, implies_true, forall_const, Nat.not_lt_zero, ab_row_eq, ab_row_ne, ab_up_i, ab_up_o, pk_us, pk_un, ab_row_row]
    · simp (disch := first | omega | decide) only [nl_add1, nl_add2, nl_mul1, nl_mul2, nl_sub1, nl_lt1, nl_lt2, nl_le1, nl_le2, nl_eq1, nl_eq2, nl_m1, nl_m2, nl_inT, nI_add, nI_mul, nI_leI, nI_ltI, nI_eq, nI_clamp, nl_bit, oI_n, oI_s, oI_m1, true_and, and_true, eq_self, Bool.false_eq_true, not_false_eq_true, not_true_eq_false, false_implies, true_implies, implies_true, forall_const, Nat.not_lt_zero, ab_row_eq, ab_row_ne, ab_up_i, ab_up_o, pk_us, pk_un, ab_row_row]
  obtain ⟨J0, f0, g0, t0, u0⟩ := cp
  obtain ⟨J1, g1, u1⟩ := g1_ok (d := d + 13) (w := w) (n := n) (nc := nc) (ns := ns) (L := L) hT g0 (am := sd) (v := J0 kx_trial 2) (fun k hk => by rw [t0]; exact c4 k (by omega))
  have f1 : kfr J1 J0 := fun c hc => g1.1 c (fun e => hc (by rw [e]; unfold kscr; decide)) (fun e => hc (by rw [e]; unfold kscr; decide)) (fun e => hc (by rw [e]; unfold kscr; decide))
  have ty : tY J1 S N e1 e2 (v, pr, sd) := by
    rw [el] at g0 g1
    exact tY_grow (s := (v, pr, sd)) g0 (fun k hk => by rw [t0]; exact c4 k hk) c5 (fun k hk => (c6 k hk).2.2.1) g1
  obtain ⟨J2, f2, u2⟩ := k_yearsLoop (d := d) (w := w) (n := n) (nc := nc) (ns := ns) (L := L) hT (s := (v, pr, sd)) (u := b) (q := a) (v := v) hb (by omega) p4 hw b 0 J1 (by omega) ty
  have kf : kfr J2 I := kfr_trans f2 (kfr_trans f1 f0)
  refine ⟨nI (ywh S N e1 e2 (v, pr, sd) b a), J2, ?_, fun L n nc ns => ?_⟩
  · refine ab_C_of (by decide) rfl (Nat.le_of_ble_eq_true rfl) hT ?_
    refine r_K_years_0 hT _ _ _ (by omega) (Nat.le_refl _) (Nat.le_refl _) ?_
    exact bb_f a1 (bb_t a3 (bb_f b1 (bb_t b3 ⟨_, u0, _, u1, u2⟩)))
  · obtain ⟨K0, q0, r0, v0⟩ := z_cp3 (d := d + 15) (w := w) (n := n) (nc := nc) (ns := ns) (L := L) (I := ab_up J2 mx 1 0) hT
    have zn : J2 mx_now = I mx_now := kf _ (by unfold kscr; decide)
    have zm : J2 mx = I mx := kf _ (by unfold kscr; decide)
    have fK : ∀ c, c ≠ mx → c ≠ mx_rowThen → (ab_up K0 mx 50 v) c = J2 c := fun c h1 h2 => by rw [ab_up_o h1, q0 c h2, ab_up_o h1]
    have gK : ∀ k, k ≠ 1 → k ≠ 50 → (ab_up K0 mx 50 v) mx k = I mx k := fun k h1 h2 => by rw [ab_up_i, pk_un h2, q0 mx (by decide), ab_up_i, pk_un h1, zm]
    have rK : ∀ x, x < 399 → (ab_up K0 mx 50 v) mx_rowThen x = I mx_now x := fun x hx => by rw [ab_up_o (by decide), r0 x hx, ab_up_o (by decide), zn]
    have hm' : mC (ab_up K0 mx 50 v) S N sd e1 e2 pr fm (lo pr N) := by
      rw [← el]
      exact mC_mar (gK 2 (by decide) (by decide)) (fun j _ _ => by rw [fK _ (by decide) (by decide), zn]) y2
    obtain ⟨K1, m1, n1, v1⟩ := z_yearsLoop (d := d) (w := w) (n := n) (nc := nc) (ns := ns) (L := L) hT (s := (v, pr, sd)) (u := b) (q := a) (E := E) (v := v) (S := S) (N := N) (e1 := e1) (e2 := e2) (fm := fm) hb (by omega) (by omega) b 0 (ab_up K0 mx 50 v) h (by omega) hm' (by rw [fK _ (by decide) (by decide), zn]; exact y4) (by rw [ab_up_i, pk_us]; rfl) (by rw [rK 2 (by omega)]; exact y4.1)
    refine ⟨K1, ?_, ?_, RR_w (Nat.le_succ T) (fun c h1 h2 h3 => ?_) (fun k h1 h2 => ?_) (fun k hk => by rw [n1 k hk, rK k hk]) g⟩
    · refine ab_C_of (by decide) rfl (Nat.le_of_ble_eq_true rfl) hT ?_
      refine r_M_years_0 hT _ _ _ (Nat.le_refl _) (Nat.le_refl _) ?_
      exact bb_f a1 (bb_f a2 (bb_f b1 (bb_f b2 ⟨_, v0, v1⟩)))
    · rw [m1.2 1 (by decide) (by decide) (by decide), ab_up_i, pk_un (by decide), q0 mx (by decide), ab_up_i, pk_us]
    · have ne : ∀ c', mscr c' → c ≠ c' := fun c' h e => h2 (e ▸ h)
      rw [m1.1 c (ne _ (by unfold mscr; decide)) (ne _ (by unfold mscr; decide)) (ne _ (by unfold mscr; decide)) h3, fK c (ne _ (by unfold mscr; decide)) (ne _ (by unfold mscr; decide)), kf c h1]
    · have ne : ∀ c', ¬ mkf c' → k ≠ c' := fun c' h e => h (e ▸ h1)
      rw [m1.2 k (ne _ (by unfold mkf; decide)) (ne _ (by unfold mkf; decide)) (ne _ (by unfold mkf; decide)), gK k h2 (ne _ (by unfold mkf; decide))]
end JY2
