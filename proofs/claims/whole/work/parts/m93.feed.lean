/-! FEED side by side -/
def svS (p : Nat) : Int32 := [24, 16, 8, 0].getD p (-8)
def bN (x : Int32) (p : Nat) : Nat := ((x >>> (svS p &&& 31)) &&& 255).toBitVec.toNat
theorem bN_ok (x : Int32) (p : Nat) : ((x >>> (svS p &&& 31)) &&& 255) = nI (bN x p) ∧ bN x p < 256 ∧ vp_nar .byte (ab_i2b8 (x >>> (svS p &&& 31))) = sb (bN x p) := by
  unfold bN
  generalize x >>> (svS p &&& 31) = y
  have h1 : (y &&& 255) = nI (y &&& 255).toBitVec.toNat := b_ext fun i hi => by rw [bt_nI _ hi]; rfl
  have h2 : (y &&& 255).toBitVec.toNat < 2 ^ 8 := lt_tb (fun i hi => by
    have hb : bt (y &&& 255) i = true := hi
    rw [b_and, Bool.and_eq_true, b_255, decide_eq_true_iff] at hb
    exact hb.2)
  refine ⟨h1, h2, ?_⟩
  have e : ab_i2b8 y = ab_i2b8 (y &&& 255) := by
    unfold ab_i2b8
    rw [Int32.toInt8_and, show (255 : Int32).toInt8 = -1 from by decide, Int8.and_neg_one]
  generalize (y &&& 255).toBitVec.toNat = a at *
  rw [e, h1]
  have : ∀ a, a < 256 → vp_nar .byte (ab_i2b8 (nI a)) = sb a := by decide +kernel
  exact this a h2
section FED
variable {w : ab_Wd} {d n nc ns : Nat} {I : Nat → Nat → Int32} {L : Nat → Nat → Int64}
variable {T : Nat}
theorem k_putOnTape (hT : w.1.stackTraces = false) {f : Nat} {x : Int32} (h1 : I kx 1 = nI f) (hf : f + 4 ≤ 700) : ∃ J, (∀ c, c ≠ kx → c ≠ kx_tape → J c = I c) ∧ (∀ k, k ≠ 1 → J kx k = I kx k) ∧ J kx 1 = nI (f + 4) ∧ (∀ j, j < f → J kx_tape j = I kx_tape j) ∧ (∀ i, i < 4 → J kx_tape (f + i) = sb (bN x i)) ∧ ab_U w d mt_K_putOnTape [.ref kx, .int x] I L n nc ns J := by
  have loop : ∀ t p (J : Nat → Nat → Int32), p + t = 4 → (∀ c, c ≠ kx → c ≠ kx_tape → J c = I c) → (∀ k, k ≠ 1 → J kx k = I kx k) → J kx 1 = nI (f + p) → (∀ j, j < f → J kx_tape j = I kx_tape j) → (∀ i, i < p → J kx_tape (f + i) = sb (bN x i)) → ∃ J', (∀ c, c ≠ kx → c ≠ kx_tape → J' c = I c) ∧ (∀ k, k ≠ 1 → J' kx k = I kx k) ∧ J' kx 1 = nI (f + 4) ∧ (∀ j, j < f → J' kx_tape j = I kx_tape j) ∧ (∀ i, i < 4 → J' kx_tape (f + i) = sb (bN x i)) ∧ ab_E w d mt_K_putOnTape 3 [.ref kx, .int x, .int (svS p)] [] (J, L, ab_RR, n, nc, ns) (.inl none, (J', L, ab_RR, n, nc, ns)) := by
    intro t
    induction t with
    | zero =>
      intro p J hp a1 a2 a3 a4 a5
      have e : p = 4 := by omega
      subst e
      refine ⟨J, a1, a2, a3, a4, a5, ?_⟩
      refine r_K_putOnTape_3 hT _ _ (Nat.le_refl _) (Nat.le_refl _) ?_
      exact bb_t (by decide) rfl
    | succ t ih =>
      intro p J hp a1 a2 a3 a4 a5
      obtain ⟨J', g1, g2, g3, g4, g5, g6⟩ := ih (p + 1) (ab_up (ab_up J kx_tape (f + p) (sb (bN x p))) kx 1 (nI (f + p + 1))) (by omega) (fun c c1 c2 => by rw [ab_up_o c1, ab_up_o c2]; exact a1 c c1 c2) (fun k hk => by rw [ab_up_i, pk_un hk, ab_up_o (by decide)]; exact a2 k hk) (by rw [ab_up_i, pk_us]; rfl) (fun j hj => by rw [ab_up_o (by decide), ab_up_i, pk_un (by omega)]; exact a4 j hj) (fun i hi => by
        rw [ab_up_o (by decide), ab_up_i]
        by_cases e : i = p
        · rw [e, pk_us]
        · rw [pk_un (by omega)]; exact a5 i (by omega))
      refine ⟨J', g1, g2, g3, g4, g5, ?_⟩
      have s1 : ∀ p, p < 4 → ¬ svS p < 0 ∧ svS p + (-8) = svS (p + 1) := by decide
      obtain ⟨s2, s3⟩ := s1 p (by omega)
      refine r_K_putOnTape_3 hT _ _ (Nat.le_refl _) (Nat.le_refl _) ?_
      rw [a3, (bN_ok x p).2.2, s3, nI_1, nI_clamp (by omega)]
      exact bb_f s2 (bb_f (fun h => by have := (nI_leI (a := 700) (by omega) (by omega)).mp h; omega) ⟨vp_in_nI (by omega) (by omega), g6⟩)
  obtain ⟨J', g1, g2, g3, g4, g5, g6⟩ := loop 4 0 I (by omega) (fun _ _ _ => rfl) (fun _ _ => rfl) h1 (fun _ _ => rfl) (fun i hi => absurd hi (Nat.not_lt_zero i))
  refine ⟨J', g1, g2, g3, g4, g5, ?_⟩
  refine ab_C_of (by decide) rfl (Nat.le_of_ble_eq_true rfl) hT ?_
  refine r_K_putOnTape_0 hT _ (Nat.le_refl _) (Nat.le_refl _) ?_
  exact g6
/-- the tape alone has changed -/
theorem RR_tp {K : Nat → Nat → Int32} {T' : Nat} (hT : T ≤ T') (fK : ∀ c, c ≠ kx → c ≠ kx_tape → c ≠ mx → c ≠ mx_tape → K c = I c) (k5 : K kx 5 = I kx 5) (fm : ∀ k, k ≠ 1 → k ≠ 8 → K mx k = I mx k) (ht : TP K) (g : RR I T) : RR K T' := by
  obtain ⟨S, ⟨N, sd, e1, e2, pr, fm', l, E, h, o, m, ac, rr, mn, cb, ib, hs, hn⟩, _, hi⟩ := g
  have zz : ∀ c, (c ≠ kx ∧ c ≠ kx_tape ∧ c ≠ mx ∧ c ≠ mx_tape) → K c = I c := fun c h => fK c h.1 h.2.1 h.2.2.1 h.2.2.2
  refine ⟨S, ⟨N, sd, e1, e2, pr, fm', l, E, h, o, m, ac, rr, mn, cb, ib, SP_T hT (SP_cong (I := I) ?_ ?_ hs), kN_cong (fun c hc => ?_) hn⟩, ht, IM_fr hT (fun c hc => ?_) k5 (fm 2 (by decide) (by decide)) (fm 52 (by decide) (by decide)) (fm 53 (by decide) (by decide)) (fm 54 (by decide) (by decide)) hi⟩
  · unfold ceq
    rw [zz kx_now (by decide), zz kx_now_cables (by decide), zz kx_now_cables_first (by decide), zz kx_now_cables_second (by decide), zz kx_now_cables_price (by decide), zz kx_now_cables_firm (by decide), zz kx_now_cables_order (by decide), zz kx_now_swaps (by decide), zz kx_now_swaps_rows (by decide), zz kx_now_acts (by decide), zz kx_now_acts_prices (by decide), zz kx_now_acts_counts (by decide), zz kx_now_acts_sounds (by decide), zz kx_now_acts_swaps (by decide), zz mx_now (by decide), zz mx_past (by decide), zz mx_notedCable (by decide), zz mx_notedIn (by decide)]
    exact ⟨fun _ _ _ => rfl, fun _ _ => rfl, fun _ _ => rfl, fun _ _ => rfl, fun _ _ => rfl, fun _ _ => rfl, fun _ _ => rfl, rfl, fun _ _ => rfl, rfl, rfl, fun _ _ => rfl, fun _ _ => rfl, fun _ _ => rfl, fun _ _ => rfl, fun _ _ => rfl, fun _ _ => rfl, fun _ _ => rfl, fun _ _ => rfl, fm 2 (by decide) (by decide), fm 41 (by decide) (by decide), fm 43 (by decide) (by decide)⟩
  · have hr := hs.2.2.2.2.2.2.2.2.2.2
    unfold rfE at *
    rw [zz kx_now_refused (by decide), zz mx_status (by decide)]
    exact hr
  · unfold knc at hc
    rcases hc with e | e | e | e | e | e | e | e <;> subst e <;> exact zz _ (by decide)
  · unfold ic at hc
    rcases hc with e | e | e | e | e | e | e | e | e | e | e | e | e | e | e | e | e | e | e | e <;> subst e <;> exact zz _ (by decide)
def wdQ (a b c d e : Int32) (q : Nat) : Int32 := [a, b, c, d, e].getD q 0
theorem z_feedLoop (hT : w.1.stackTraces = false) {f : Nat} (hf : f + 20 ≤ 700) (a b c e g : Int32) : ∀ t k (K : Nat → Nat → Int32), k + t = 20 → K mx 8 = nI (f + k) → (∀ i, i < k → K mx_tape (f + i) = nI (bN (wdQ a b c e g (i / 4)) (i % 4))) → ∃ K', (∀ x, x ≠ mx → x ≠ mx_tape → K' x = K x) ∧ (∀ k, k ≠ 8 → K' mx k = K mx k) ∧ K' mx 8 = nI (f + 20) ∧ (∀ j, j < f → K' mx_tape j = K mx_tape j) ∧ (∀ i, i < 20 → K' mx_tape (f + i) = nI (bN (wdQ a b c e g (i / 4)) (i % 4))) ∧ ab_E w d mt_M_feed 23 [.ref mx, .int a, .int b, .int c, .int e, .int g, .int (nI k), .null] [] (K, L, ab_RR, n, nc, ns) (.inl (some (.int (nI (f + 20)))), (K', L, ab_RR, n, nc, ns)) := by
  intro t
  induction t with
  | zero =>
    intro k K hk h1 h2
    have e : k = 20 := by omega
    subst e
    refine ⟨K, fun _ _ _ => rfl, fun _ _ => rfl, h1, fun _ _ => rfl, h2, ?_⟩
    refine r_M_feed_23 hT _ _ _ _ _ _ (Nat.le_refl _) (Nat.le_refl _) ?_
    exact bb_t (by decide) (by rw [h1])
  | succ t ih =>
    intro k K hk h1 h2
    have sh : (24 - (8 * (nI k - nI k / 4 * 4))) = svS (k % 4) := by
      rw [show nI k - nI k / 4 * 4 = nI (k % 4) from nI_rem (b := 4) (by omega) (by omega)]
      have : ∀ p, p < 4 → (24 - (8 * nI p)) = svS p := by decide
      exact this _ (Nat.mod_lt _ (by omega))
    obtain ⟨K', g1, g2, g3, g4, g5, g6⟩ := ih (k + 1) (ab_up (ab_up K mx_tape (f + k) (nI (bN (wdQ a b c e g (k / 4)) (k % 4)))) mx 8 (nI (f + k + 1))) (by omega) (by rw [ab_up_i, pk_us]; rfl) (fun i hi => by
      rw [ab_up_o (by decide), ab_up_i]
      by_cases e : i = k
      · rw [e, pk_us]
      · rw [pk_un (by omega)]; exact h2 i (by omega))
    refine ⟨K', fun x x1 x2 => by rw [g1 x x1 x2, ab_up_o x1, ab_up_o x2], fun k hk => by rw [g2 k hk, ab_up_i, pk_un hk, ab_up_o (by decide)], g3, fun j hj => by rw [g4 j hj, ab_up_o (by decide), ab_up_i, pk_un (by omega)], g5, ?_⟩
    have wv : ∀ x, wdQ a b c e g (k / 4) = x → (x >>> (svS (k % 4) &&& 31)) &&& 255 = nI (bN (wdQ a b c e g (k / 4)) (k % 4)) := fun x hx => by rw [hx]; exact (bN_ok x (k % 4)).1
    have hv : vp_in (nI (f + k)) 700 := vp_in_nI (by omega) (by omega)
    have no : ∀ q, q ≤ 20 → k < q → ¬ nI q ≤ nI k := fun q h1 h2 h => by have := (nI_leI (by omega) (by omega)).mp h; omega
    have ye : ∀ q, q ≤ 20 → q ≤ k → nI q ≤ nI k := fun q h1 h2 => (nI_leI (by omega) (by omega)).mpr h2
    refine r_M_feed_23 hT _ _ _ _ _ _ (Nat.le_refl _) (Nat.le_refl _) ?_
    rw [sh, h1, nI_clamp (by omega), nI_1, nI_1]
    refine bb_f (no 20 (by omega) (by omega)) ?_
    by_cases k4 : 4 ≤ k
    · refine bb_t (ye 4 (by omega) k4) ?_
      by_cases k8 : 8 ≤ k
      · refine bb_t (ye 8 (by omega) k8) ?_
        by_cases k12 : 12 ≤ k
        · refine bb_t (ye 12 (by omega) k12) ?_
          by_cases k16 : 16 ≤ k
          · refine bb_t (ye 16 (by omega) k16) ⟨hv, ?_⟩
            rw [wv g (by rw [show k / 4 = 4 by omega]; rfl)]; exact g6
          · refine bb_f (no 16 (by omega) (by omega)) ⟨hv, ?_⟩
            rw [wv e (by rw [show k / 4 = 3 by omega]; rfl)]; exact g6
        · refine bb_f (no 12 (by omega) (by omega)) ⟨hv, ?_⟩
          rw [wv c (by rw [show k / 4 = 2 by omega]; rfl)]; exact g6
      · refine bb_f (no 8 (by omega) (by omega)) ⟨hv, ?_⟩
        rw [wv b (by rw [show k / 4 = 1 by omega]; rfl)]; exact g6
    · refine bb_f (no 4 (by omega) (by omega)) ⟨hv, ?_⟩
      rw [wv a (by rw [show k / 4 = 0 by omega]; rfl)]; exact g6
theorem j_feed (hT : w.1.stackTraces = false) (g : RR I T) (a b c e x : Int32) : jA w (d + 16) mt_K_feed mt_M_feed [.int a, .int b, .int c, .int e, .int x] I L n nc ns (T + 1) := by
  obtain ⟨S, nw, ⟨t1, f, by', t2, t3, t4, t5⟩, hi⟩ := id g
  have le20 : nI f + 20 ≤ 700 ↔ f + 20 ≤ 700 := by
    rw [show nI f + 20 = nI (f + 20) from nI_add f 20]
    exact nI_leI (b := 700) (by omega) (by omega)
  by_cases hf : f + 20 ≤ 700
  · obtain ⟨J1, f1, k1, n1, o1, p1, u1⟩ := k_putOnTape (d := d + 15) (w := w) (n := n) (nc := nc) (ns := ns) (L := L) (x := a) hT t2 (by omega)
    obtain ⟨J2, f2, k2, n2, o2, p2, u2⟩ := k_putOnTape (d := d + 15) (w := w) (n := n) (nc := nc) (ns := ns) (L := L) (x := b) hT n1 (by omega)
    obtain ⟨J3, f3, k3, n3, o3, p3, u3⟩ := k_putOnTape (d := d + 15) (w := w) (n := n) (nc := nc) (ns := ns) (L := L) (x := c) hT n2 (by omega)
    obtain ⟨J4, f4, k4, n4, o4, p4, u4⟩ := k_putOnTape (d := d + 15) (w := w) (n := n) (nc := nc) (ns := ns) (L := L) (x := e) hT n3 (by omega)
    obtain ⟨J5, f5, k5, n5, o5, p5, u5⟩ := k_putOnTape (d := d + 15) (w := w) (n := n) (nc := nc) (ns := ns) (L := L) (x := x) hT n4 (by omega)
    have fJ : ∀ c, c ≠ kx → c ≠ kx_tape → J5 c = I c := fun c c1 c2 => by rw [f5 c c1 c2, f4 c c1 c2, f3 c c1 c2, f2 c c1 c2, f1 c c1 c2]
    have kJ : ∀ k, k ≠ 1 → J5 kx k = I kx k := fun k hk => by rw [k5 k hk, k4 k hk, k3 k hk, k2 k hk, k1 k hk]
    have oJ : ∀ j, j < f → J5 kx_tape j = I kx_tape j := fun j hj => by rw [o5 j (by omega), o4 j (by omega), o3 j (by omega), o2 j (by omega), o1 j hj]
    have pJ : ∀ i, i < 20 → J5 kx_tape (f + i) = sb (bN (wdQ a b c e x (i / 4)) (i % 4)) := fun i hi => by
      have hq : i / 4 = 0 ∨ i / 4 = 1 ∨ i / 4 = 2 ∨ i / 4 = 3 ∨ i / 4 = 4 := by omega
      rcases hq with q | q | q | q | q <;> rw [q]
      · have := p1 (i % 4) (Nat.mod_lt _ (by omega))
        rw [show f + i % 4 = f + i by omega] at this
        rw [o5 _ (by omega), o4 _ (by omega), o3 _ (by omega), o2 _ (by omega), this]; rfl
      · have := p2 (i % 4) (Nat.mod_lt _ (by omega))
        rw [show f + 4 + i % 4 = f + i by omega] at this
        rw [o5 _ (by omega), o4 _ (by omega), o3 _ (by omega), this]; rfl
      · have := p3 (i % 4) (Nat.mod_lt _ (by omega))
        rw [show f + 4 + 4 + i % 4 = f + i by omega] at this
        rw [o5 _ (by omega), o4 _ (by omega), this]; rfl
      · have := p4 (i % 4) (Nat.mod_lt _ (by omega))
        rw [show f + 4 + 4 + 4 + i % 4 = f + i by omega] at this
        rw [o5 _ (by omega), this]; rfl
      · have := p5 (i % 4) (Nat.mod_lt _ (by omega))
        rw [show f + 4 + 4 + 4 + 4 + i % 4 = f + i by omega] at this
        rw [this]; rfl
    refine ⟨nI (f + 20), J5, ?_, fun L n nc ns => ?_⟩
    · refine ab_C_of (by decide) rfl (Nat.le_of_ble_eq_true rfl) hT ?_
      refine r_K_feed_0 hT _ _ _ _ _ (Nat.le_refl _) (Nat.le_refl _) ?_
      rw [t2]
      exact bb_t (le20.mpr hf) ⟨_, u1, _, u2, _, u3, _, u4, _, u5, by rw [n5]⟩
    · have z8 : (ab_up J5 mx 1 0) mx 8 = nI (f + 0) := by rw [ab_up_i, pk_un (by decide), fJ mx (by decide) (by decide)]; exact t3
      obtain ⟨K, q1, q2, q3, q4, q5, q6⟩ := z_feedLoop (d := d + 16) (w := w) (n := n) (nc := nc) (ns := ns) (L := L) hT hf a b c e x 20 0 (ab_up J5 mx 1 0) (by omega) z8 (fun i hi => absurd hi (Nat.not_lt_zero i))
      have kk : ∀ k, K kx k = J5 kx k := fun k => by rw [q1 kx (by decide) (by decide), ab_up_o (by decide)]
      have mm : ∀ k, k ≠ 1 → k ≠ 8 → K mx k = I mx k := fun k h1 h2 => by rw [q2 k h2, ab_up_i, pk_un h1, fJ mx (by decide) (by decide)]
      refine ⟨K, ?_, RR_tp (Nat.le_succ T) (fun c c1 c2 c3 c4 => by rw [q1 c c3 c4, ab_up_o c3, fJ c c1 c2]) (by rw [kk, kJ 5 (by decide)]) mm ⟨by rw [kk, kJ 2 (by decide), mm 17 (by decide) (by decide)]; exact t1, f + 20, fun j => if j < f then by' j else bN (wdQ a b c e x ((j - f) / 4)) ((j - f) % 4), by rw [kk]; exact n5, q3, hf, fun j hj => ?_⟩ g⟩
      · refine ab_C_of (by decide) rfl (Nat.le_of_ble_eq_true rfl) hT ?_
        refine r_M_feed_0 hT _ _ _ _ _ (Nat.le_refl _) (Nat.le_refl _) ?_
        rw [fJ mx (by decide) (by decide), t3]
        exact bb_t (le20.mpr hf) q6
      · have kt : K kx_tape = J5 kx_tape := by rw [q1 _ (by decide) (by decide), ab_up_o (by decide)]
        by_cases hjf : j < f
        · rw [kt, oJ j hjf, q4 j hjf, ab_up_o (by decide), fJ _ (by decide) (by decide)]
          show (if j < f then _ else _) < 256 ∧ _ = sb (if j < f then _ else _) ∧ _ = nI (if j < f then _ else _)
          rw [if_pos hjf]; exact t5 j hjf
        · show (if j < f then _ else _) < 256 ∧ _ = sb (if j < f then _ else _) ∧ _ = nI (if j < f then _ else _)
          rw [if_neg hjf]
          have e1 := pJ (j - f) (by omega)
          have e2 := q5 (j - f) (by omega)
          rw [show f + (j - f) = j by omega] at e1 e2
          exact ⟨(bN_ok _ _).2.1, by rw [kt]; exact e1, e2⟩
  · refine ⟨-1, I, ?_, fun L n nc ns => ⟨ab_up I mx 1 0, ?_, RR_q (Nat.le_succ T) kfr_refl mgr_c g⟩⟩
    · refine ab_C_of (by decide) rfl (Nat.le_of_ble_eq_true rfl) hT ?_
      refine r_K_feed_0 hT _ _ _ _ _ (Nat.le_refl _) (Nat.le_refl _) ?_
      rw [t2]
      exact bb_f (fun h => hf (le20.mp h)) rfl
    · refine ab_C_of (by decide) rfl (Nat.le_of_ble_eq_true rfl) hT ?_
      refine r_M_feed_0 hT _ _ _ _ _ (Nat.le_refl _) (Nat.le_refl _) ?_
      rw [t3]
      exact bb_f (fun h => hf (le20.mp h)) rfl
end FED
