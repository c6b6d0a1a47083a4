/-! NET: the class reads a text -/
section KTX
variable {w : ab_Wd} {d n nc ns : Nat} {I : Nat → Nat → Int32} {L : Nat → Nat → Int64}
variable {b : Nat → Nat} {Z : Nat} {t : Tk} {c : Cb}
theorem cBt_no {J : Nat → Nat → Int32} (h : rno J I) (g : cBt I c) : cBt J c := cB_cong h g
/-- behind a clause a semicolon -/
theorem k_endC (hT : w.1.stackTraces = false) {J : Nat → Nat → Int32} (h : cRt J b Z t c) : (¬ t.1 = 3 ∧ ∃ K, rno K J ∧ cF K b Z 1 t.2.1 ∧ ab_U w (d + 2) mt_Reader_toNext [.ref kx_reader] (flt J 1 t.2.1) L n nc ns K) ∨ (t.1 = 3 ∧ ∃ K, rdf K J ∧ cRt K b Z (nxt b Z t) c ∧ ab_U w (d + 2) mt_Reader_toNext [.ref kx_reader] J L n nc ns K) := by
  by_cases e : t.1 = 3
  · obtain ⟨K, f, r, u⟩ := A_next (d := d) (w := w) (n := n) (nc := nc) (ns := ns) (L := L) hT h
    exact Or.inr ⟨e, K, rdf_mv f, r, u⟩
  · obtain ⟨K, f, r, u⟩ := B_next (d := d) (w := w) (n := n) (nc := nc) (ns := ns) (L := L) hT (cR_F h (c := 1) (a := t.2.1) (by omega) (by omega))
    exact Or.inl ⟨e, K, rno_trans (rno_mv f) rno_flt, r, u⟩
theorem k_clause (hT : w.1.stackTraces = false) (h : cRt I b Z t c) {first : Bool} (h0 : first = true → c.2.1 = 0) : (∃ cd a, clP b Z t first c = .inl (cd, a) ∧ ∃ J, rdf J I ∧ cF J b Z cd a ∧ (∃ c', cBt J c') ∧ ab_U w (d + 5) mt_Reader_readClause [.ref kx_reader, .int (if first = true then 1 else 0)] I L n nc ns J) ∨ (∃ t' c', clP b Z t first c = .inr (t', c') ∧ t.2.1 < t'.2.1 ∧ (t'.1 ≠ 0 → t'.2.1 < t'.2.2.1) ∧ ∃ J, rdf J I ∧ cRt J b Z t' c' ∧ ab_U w (d + 5) mt_Reader_readClause [.ref kx_reader, .int (if first = true then 1 else 0)] I L n nc ns J) := by
  have w0 : ab_P w (d + 4) mt_Reader_isWord [.ref kx_reader, .ref 32] I L n nc ns (if isW b t 0 = true then 1 else 0) := k_isWord (j := 0) (d := d) (w := w) (n := n) (nc := nc) (ns := ns) (L := L) hT h.1 h.2.2.1 h.2.1 (by omega)
  have w1 : ab_P w (d + 4) mt_Reader_isWord [.ref kx_reader, .ref 96] I L n nc ns (if isW b t 1 = true then 1 else 0) := k_isWord (j := 1) (d := d) (w := w) (n := n) (nc := nc) (ns := ns) (L := L) hT h.1 h.2.2.1 h.2.1 (by omega)
  have w2 : ab_P w (d + 4) mt_Reader_isWord [.ref kx_reader, .ref 160] I L n nc ns (if isW b t 2 = true then 1 else 0) := k_isWord (j := 2) (d := d) (w := w) (n := n) (nc := nc) (ns := ns) (L := L) hT h.1 h.2.2.1 h.2.1 (by omega)
  have wl : ∀ j, j < 8 → isW b t j = true → 0 < (wdS j).length → t.2.1 < t.2.2.1 := fun j _ hw hl => by
    have := (of_decide_eq_true hw).2.1
    omega
  have hcB : cBt I c := h.2.2.2.2.2
  -- what is common to the three
  have fail : ∀ cd a, clB b Z t first c = .inl (cd, a) → ∀ J1, rno J1 I → cF J1 b Z cd a → (∀ J, ((∃ K, ab_U w (d + 4) mt_Reader_toNext [.ref kx_reader] J1 L n nc ns K ∧ J = K) → ab_E w ((d + 4) + 1) mt_Reader_readClause 0 [.ref kx_reader, .int (if first = true then 1 else 0)] [] (I, L, ab_RR, n, nc, ns) (.inl none, (J, L, ab_RR, n, nc, ns)))) → ∃ cd a, clP b Z t first c = .inl (cd, a) ∧ ∃ J, rdf J I ∧ cF J b Z cd a ∧ (∃ c', cBt J c') ∧ ab_U w (d + 5) mt_Reader_readClause [.ref kx_reader, .int (if first = true then 1 else 0)] I L n nc ns J := by
    intro cd a e J1 g1 g2 g3
    obtain ⟨K, f, r, u⟩ := B_next (d := d + 2) (w := w) (n := n) (nc := nc) (ns := ns) (L := L) hT g2
    refine ⟨cd, a, by unfold clP; rw [e], K, rno_rd (rno_trans (rno_mv f) g1), r, ⟨c, cBt_no (rno_trans (rno_mv f) g1) hcB⟩, ?_⟩
    refine ab_C_of (by decide) rfl (Nat.le_of_ble_eq_true rfl) hT ?_
    exact g3 K ⟨K, u, rfl⟩
  have good : ∀ t1 c1, clB b Z t first c = .inr (t1, c1) → t.2.1 < t1.2.1 → ∀ J1, rdf J1 I → cRt J1 b Z t1 c1 → (∀ J, ((J1 kx_reader 4 = 3 → ∃ K, ab_U w (d + 4) mt_Reader_toNext [.ref kx_reader] J1 L n nc ns K ∧ J = K) ∧ (¬ J1 kx_reader 4 = 3 → ∃ K, ab_U w (d + 4) mt_Reader_toNext [.ref kx_reader] (ab_up (ab_up J1 kx_reader 7 1) kx_reader 8 (J1 kx_reader 5)) L n nc ns K ∧ J = K) → J1 kx_reader 7 = 0 → ab_E w ((d + 4) + 1) mt_Reader_readClause 0 [.ref kx_reader, .int (if first = true then 1 else 0)] [] (I, L, ab_RR, n, nc, ns) (.inl none, (J, L, ab_RR, n, nc, ns)))) → (∃ cd a, clP b Z t first c = .inl (cd, a) ∧ ∃ J, rdf J I ∧ cF J b Z cd a ∧ (∃ c', cBt J c') ∧ ab_U w (d + 5) mt_Reader_readClause [.ref kx_reader, .int (if first = true then 1 else 0)] I L n nc ns J) ∨ (∃ t' c', clP b Z t first c = .inr (t', c') ∧ t.2.1 < t'.2.1 ∧ (t'.1 ≠ 0 → t'.2.1 < t'.2.2.1) ∧ ∃ J, rdf J I ∧ cRt J b Z t' c' ∧ ab_U w (d + 5) mt_Reader_readClause [.ref kx_reader, .int (if first = true then 1 else 0)] I L n nc ns J) := by
    intro t1 c1 e lt J1 g1 g2 g3
    have o1 := nxt_ok (b := b) g2.2.2.1
    have k3 : J1 kx_reader 4 = 3 ↔ t1.1 = 3 := by
      rw [g2.2.1.1]; exact nI_eq (b := 3) (by have := g2.2.2.1.1; omega) (by omega)
    rcases k_endC (d := d + 2) (w := w) (n := n) (nc := nc) (ns := ns) (L := L) hT g2 with ⟨n3, K, f, r, u⟩ | ⟨y3, K, f, r, u⟩
    · left
      refine ⟨1, t1.2.1, by unfold clP; rw [e]; simp only [if_neg n3], K, rdf_trans (rno_rd f) g1, r, ⟨c1, cBt_no f g2.2.2.2.2.2⟩, ?_⟩
      refine ab_C_of (by decide) rfl (Nat.le_of_ble_eq_true rfl) hT ?_
      refine g3 K ⟨fun g => absurd (k3.mp g) n3, fun _ => ⟨K, ?_, rfl⟩⟩ g2.2.2.2.1
      rw [g2.2.1.2.1]; exact u
    · right
      have pp := (tk_b (b := b) g2.2.2.1.2.2.1).2.2.2.2.1
      refine ⟨nxt b Z t1, c1, by unfold clP; rw [e]; simp only [if_pos y3], ?_, pp, K, rdf_trans f g1, r, ?_⟩
      · have a1 := g2.2.2.1.2.1; have a2 := o1.2; omega
      · refine ab_C_of (by decide) rfl (Nat.le_of_ble_eq_true rfl) hT ?_
        exact g3 K ⟨fun _ => ⟨K, u, rfl⟩, fun g => absurd (k3.mpr y3) g⟩ g2.2.2.2.1
  by_cases h1 : isW b t 0 = true
  · have lt := wl 0 (by omega) h1 (by decide)
    rcases k_readSites (d := d + 1) (w := w) (n := n) (nc := nc) (ns := ns) (L := L) hT h h0 with ⟨cd, a, s1, J1, f1, r1, u1⟩ | ⟨S', t', s1, s2, J1, f1, r1, u1⟩
    · left
      refine fail cd a (by unfold clB; rw [if_pos h1, s1]) J1 f1 r1 (fun J hJ => ?_)
      obtain ⟨K, u, e⟩ := hJ
      subst e
      refine r_Reader_readClause_0 hT _ (Nat.le_refl _) (Nat.le_refl _) ?_
      refine ⟨_, w0, bb_f (by rw [if_pos h1]; decide) ⟨_, u1, ?_⟩⟩
      by_cases k : J1 kx_reader 4 = 3
      · exact bb_t k ⟨_, u, rfl⟩
      · exact bb_f k (bb_f (cF_ne r1) ⟨_, u, rfl⟩)
    · refine good t' (S', c.2) (by unfold clB; rw [if_pos h1, s1]) (by omega) J1 f1 r1 (fun J hJ h7 => ?_)
      refine r_Reader_readClause_0 hT _ (Nat.le_refl _) (Nat.le_refl _) ?_
      refine ⟨_, w0, bb_f (by rw [if_pos h1]; decide) ⟨_, u1, ?_⟩⟩
      by_cases k : J1 kx_reader 4 = 3
      · obtain ⟨K, u, e⟩ := hJ.1 k
        subst e
        exact bb_t k ⟨_, u, rfl⟩
      · obtain ⟨K, u, e⟩ := hJ.2 k
        subst e
        exact bb_f k (bb_t h7 ⟨_, u, rfl⟩)
  by_cases h2 : isW b t 1 = true
  · have lt := wl 1 (by omega) h2 (by decide)
    rcases k_readCable (d := d + 1) (w := w) (n := n) (nc := nc) (ns := ns) (L := L) hT h with ⟨cd, a, s1, J1, f1, r1, u1⟩ | ⟨x, y, p, f, t', s1, s2, s3, J1, f1, r1, u1⟩
    · left
      refine fail cd a (by unfold clB; rw [if_neg h1, if_pos h2, s1]) J1 f1 r1 (fun J hJ => ?_)
      obtain ⟨K, u, e⟩ := hJ
      subst e
      refine r_Reader_readClause_0 hT _ (Nat.le_refl _) (Nat.le_refl _) ?_
      refine ⟨_, w0, bb_t (if_neg h1) ⟨_, w1, bb_f (by rw [if_pos h2]; decide) ⟨_, u1, ?_⟩⟩⟩
      by_cases k : J1 kx_reader 4 = 3
      · exact bb_t k ⟨_, u, rfl⟩
      · exact bb_f k (bb_f (cF_ne r1) ⟨_, u, rfl⟩)
    · refine good t' (c.1, c.2.1 + 1, un c.2.2.1 c.2.1 true, un c.2.2.2.1 c.2.1 x, un c.2.2.2.2.1 c.2.1 y, un c.2.2.2.2.2.1 c.2.1 p, un c.2.2.2.2.2.2 c.2.1 f) (by unfold clB; rw [if_neg h1, if_pos h2, s1]) (by omega) J1 f1 r1 (fun J hJ h7 => ?_)
      refine r_Reader_readClause_0 hT _ (Nat.le_refl _) (Nat.le_refl _) ?_
      refine ⟨_, w0, bb_t (if_neg h1) ⟨_, w1, bb_f (by rw [if_pos h2]; decide) ⟨_, u1, ?_⟩⟩⟩
      by_cases k : J1 kx_reader 4 = 3
      · obtain ⟨K, u, e⟩ := hJ.1 k
        subst e
        exact bb_t k ⟨_, u, rfl⟩
      · obtain ⟨K, u, e⟩ := hJ.2 k
        subst e
        exact bb_f k (bb_t h7 ⟨_, u, rfl⟩)
  by_cases h3 : isW b t 2 = true
  · have lt := wl 2 (by omega) h3 (by decide)
    rcases k_readBroken (d := d + 1) (w := w) (n := n) (nc := nc) (ns := ns) (L := L) hT h with ⟨cd, a, s1, J1, f1, r1, u1⟩ | ⟨k, t', s1, s3, J1, f1, r1, u1⟩
    · left
      refine fail cd a (by unfold clB; rw [if_neg h1, if_neg h2, if_pos h3, s1]) J1 f1 r1 (fun J hJ => ?_)
      obtain ⟨K, u, e⟩ := hJ
      subst e
      refine r_Reader_readClause_0 hT _ (Nat.le_refl _) (Nat.le_refl _) ?_
      refine ⟨_, w0, bb_t (if_neg h1) ⟨_, w1, bb_t (if_neg h2) ⟨_, w2, bb_f (by rw [if_pos h3]; decide) ⟨_, u1, ?_⟩⟩⟩⟩
      by_cases k : J1 kx_reader 4 = 3
      · exact bb_t k ⟨_, u, rfl⟩
      · exact bb_f k (bb_f (cF_ne r1) ⟨_, u, rfl⟩)
    · refine good t' (c.1, c.2.1, (fun j => if j = k then false else c.2.2.1 j), c.2.2.2) (by unfold clB; rw [if_neg h1, if_neg h2, if_pos h3, s1]) (by omega) J1 f1 r1 (fun J hJ h7 => ?_)
      refine r_Reader_readClause_0 hT _ (Nat.le_refl _) (Nat.le_refl _) ?_
      refine ⟨_, w0, bb_t (if_neg h1) ⟨_, w1, bb_t (if_neg h2) ⟨_, w2, bb_f (by rw [if_pos h3]; decide) ⟨_, u1, ?_⟩⟩⟩⟩
      by_cases k : J1 kx_reader 4 = 3
      · obtain ⟨K, u, e⟩ := hJ.1 k
        subst e
        exact bb_t k ⟨_, u, rfl⟩
      · obtain ⟨K, u, e⟩ := hJ.2 k
        subst e
        exact bb_f k (bb_t h7 ⟨_, u, rfl⟩)
  left
  refine fail 1 t.2.1 (by unfold clB; rw [if_neg h1, if_neg h2, if_neg h3]) (flt I 1 t.2.1) rno_flt (cR_F h (by omega) (by omega)) (fun J hJ => ?_)
  obtain ⟨K, u, e⟩ := hJ
  subst e
  refine r_Reader_readClause_0 hT _ (Nat.le_refl _) (Nat.le_refl _) ?_
  refine ⟨_, w0, bb_t (if_neg h1) ⟨_, w1, bb_t (if_neg h2) ⟨_, w2, bb_t (if_neg h3) (bb_t h.2.2.2.1 ?_)⟩⟩⟩
  rw [h.2.1.2.1]
  by_cases k : I kx_reader 4 = 3
  · exact bb_t k ⟨_, u, rfl⟩
  · exact bb_f k ⟨_, u, rfl⟩
/-- what was read -/
def cOut (J : Nat → Nat → Int32) (o : Sum (Nat × Nat) Cb) (r : Int32) : Prop := match o with
  | .inl f => r = nI f.1 ∧ 1 ≤ f.1 ∧ f.1 ≤ 5 ∧ J kx_reader 8 = nI f.2
  | .inr c => r = 0 ∧ J kx_reader 8 = -1 ∧ cBt J c ∧ ∀ i, i < c.2.1 → J kx_trial_order i = nI ((lo c.2.2.2.2.2.1 c.2.1).getD i 0)
theorem k_sortT (hT : w.1.stackTraces = false) (h : cBt I c) : ∃ J, (∀ a, a ≠ kx_trial_order → J a = I a) ∧ (∀ i, i < c.2.1 → J kx_trial_order i = nI ((lo c.2.2.2.2.2.1 c.2.1).getD i 0)) ∧ ab_U w d mt_Cables_sort [.ref kx_trial] I L n nc ns J := by
  obtain ⟨b0, b1, b2, b3, b4, b5, b6, b7⟩ := h
  obtain ⟨g, l', g1, g2, g3, g4⟩ := s1_ok (d := d) (I := I) (w := w) (n := n) (nc := nc) (ns := ns) (L := L) hT (N := c.2.1) (pr := c.2.2.2.2.2.1) b1 b4 (fun k hk => ⟨(b7 k hk).1.2.2.1, (b7 k hk).2.2.2.2.1⟩)
  have el := lo_eq g1
  subst el
  exact ⟨_, fun a ha => ab_row_ne ha, fun i hi => by rw [ab_row_eq]; exact g2 i hi, g4⟩
theorem k_textLoop (hT : w.1.stackTraces = false) : ∀ f i t (c : Cb) (I : Nat → Nat → Int32), i + f = 701 → i ≤ t.2.1 → (t.1 ≠ 0 → t.2.1 < t.2.2.1) → (i = 0 → c.2.1 = 0) → cRt I b Z t c → ∃ J r, rdf J I ∧ cOut J (rdP b Z f i t c) r ∧ ab_E w ((d + 5) + 1) mt_Reader_readText 13 [.ref kx_reader, .int (nI i)] [] (I, L, ab_RR, n, nc, ns) (.inl (some (.int r)), (J, L, ab_RR, n, nc, ns)) := by
  intro f
  induction f with
  | zero =>
    intro i t c I hi h1 h2 h3 h
    have a1 := h.2.2.1.2.1; have a2 := h.2.2.1.2.2.1; have a3 := h.1.2.1
    omega
  | succ f ih =>
    intro i t c I hi h1 h2 h3 h
    have a1 := h.2.2.1.2.1; have a2 := h.2.2.1.2.2.1; have a3 := h.1.2.1
    have a4 := h.2.2.1.1
    by_cases ht : t.1 = 0
    · have e : rdP b Z (f + 1) i t c = .inr c := if_pos ht
      obtain ⟨J, g1, g2, g3⟩ := k_sortT (d := d + 5) (w := w) (n := n) (nc := nc) (ns := ns) (L := L) hT (show cBt I c from h.2.2.2.2.2)
      rw [e]
      have zb : cBt J c := by
        have hb := h.2.2.2.2.2
        unfold cBt cB at *
        rw [g1 kx_trial (by decide), g1 kx_trial_first (by decide), g1 kx_trial_second (by decide), g1 kx_trial_price (by decide), g1 kx_trial_firm (by decide)]; exact hb
      refine ⟨J, 0, fun a ha => g1 a (fun e => ha (by rw [e]; unfold rdc; decide)), ⟨rfl, by rw [g1 _ (by decide)]; exact h.2.2.2.2.1, zb, g2⟩, ?_⟩
      have r7 : J kx_reader 7 = 0 := by rw [g1 _ (by decide)]; exact h.2.2.2.1
      refine r_Reader_readText_13 hT _ (Nat.le_refl _) (Nat.le_refl _) ?_
      by_cases e7 : 700 ≤ nI i
      · exact bb_t e7 ⟨_, g3, by rw [r7]⟩
      · exact bb_f e7 (bb_t (by rw [h.2.1.1, ht]; rfl) ⟨_, g3, by rw [r7]⟩)
    · have lt := h2 ht
      have n7 : ¬ 700 ≤ nI i := fun g => by have := (nI_leI (a := 700) (by omega) (by omega)).mp g; omega
      have n4 : ¬ I kx_reader 4 = 0 := fun g => ht (by rw [h.2.1.1] at g; exact (nI_eq (b := 0) (by omega) (by omega)).mp g)
      have e : rdP b Z (f + 1) i t c = match clP b Z t (decide (i = 0)) c with
        | .inl e => .inl e
        | .inr s => rdP b Z f (i + 1) s.1 s.2 := if_neg ht
      have st : ∀ (I12 : Nat → Nat → Int32) (res : Int32 × (Nat → Nat → Int32)), ab_U w (d + 5) mt_Reader_readClause [.ref kx_reader, .int (if decide (i = 0) = true then 1 else 0)] I L n nc ns I12 → ab_E w ((d + 5) + 1) mt_Reader_readText 13 [.ref kx_reader, .int (nI (i + 1))] [] (I12, L, ab_RR, n, nc, ns) (.inl (some (.int res.1)), (res.2, L, ab_RR, n, nc, ns)) → ab_E w ((d + 5) + 1) mt_Reader_readText 13 [.ref kx_reader, .int (nI i)] [] (I, L, ab_RR, n, nc, ns) (.inl (some (.int res.1)), (res.2, L, ab_RR, n, nc, ns)) := fun I12 res u1 u2 => by
        refine r_Reader_readText_13 hT _ (Nat.le_refl _) (Nat.le_refl _) ?_
        rw [nI_1]
        refine bb_f n7 (bb_f n4 (bb_t' h.2.2.2.1 ?_))
        by_cases e0 : i = 0
        · rw [if_pos (decide_eq_true e0)] at u1
          exact bb_t' (by rw [e0]; rfl) ⟨_, u1, u2⟩
        · rw [if_neg (by rw [decide_eq_false e0]; decide)] at u1
          exact bb_f' (fun g => e0 ((nI_eq (b := 0) (by omega) (by omega)).mp g)) ⟨_, u1, u2⟩
      rcases k_clause (d := d) (w := w) (n := n) (nc := nc) (ns := ns) (L := L) hT h (first := decide (i = 0)) (fun g => h3 (of_decide_eq_true g)) with ⟨cd, a, s1, J1, f1, r1, ⟨c', b1⟩, u1⟩ | ⟨t', c', s1, s2, s3, J1, f1, r1, u1⟩
      · obtain ⟨J, g1, g2, g3⟩ := k_sortT (d := d + 5) (w := w) (n := n) (nc := nc) (ns := ns) (L := L) hT b1
        rw [e, s1]
        refine ⟨J, nI cd, rdf_trans (fun a ha => g1 a (fun e => ha (by rw [e]; unfold rdc; decide))) f1, ⟨rfl, r1.2.2.2.2.1, r1.2.2.2.2.2, by rw [g1 _ (by decide)]; exact r1.2.2.2.1⟩, st J1 (nI cd, J) u1 ?_⟩
        have r7 : J kx_reader 7 = nI cd := by rw [g1 _ (by decide)]; exact r1.2.2.1
        refine r_Reader_readText_13 hT _ (Nat.le_refl _) (Nat.le_refl _) ?_
        by_cases e7 : 700 ≤ nI (i + 1)
        · exact bb_t e7 ⟨_, g3, by rw [r7]⟩
        · refine bb_f e7 ?_
          by_cases k4 : J1 kx_reader 4 = 0
          · exact bb_t k4 ⟨_, g3, by rw [r7]⟩
          · exact bb_f k4 (bb_f' (cF_ne r1) ⟨_, g3, by rw [r7]⟩)
      · obtain ⟨J, r, g1, g2, g3⟩ := ih (i + 1) t' c' J1 (by omega) (by omega) s3 (fun g => absurd g (by omega)) r1
        rw [e, s1]
        exact ⟨J, r, rdf_trans g1 f1, g2, st J1 (r, J) u1 g3⟩
/-- the whole text -/
def rdT (b : Nat → Nat) (Z : Nat) : Sum (Nat × Nat) Cb := rdP b Z 701 0 (tk b Z 0) (4, 0, fun _ => false, fun _ => 0, fun _ => 0, fun _ => 0, fun _ => 0)
theorem k_readText (hT : w.1.stackTraces = false) (h : cT I b Z) (h3 : I kx_reader 3 = 0) (h7 : I kx_reader 7 = 0) (h8 : I kx_reader 8 = -1) : ∃ J r, rdf J I ∧ cOut J (rdT b Z) r ∧ ab_PU w (d + 6) mt_Reader_readText [.ref kx_reader] I L n nc ns r J := by
  obtain ⟨I1, hI1⟩ : ∃ K, K = ab_up (ab_up (ab_up I kx_trial 0 4) kx_trial 1 0) kx_trial 2 0 := ⟨_, rfl⟩
  have f1 : rdf I1 I := by
    rw [hI1]
    exact rdf_up (rdf_up (rdf_up rdf_refl (by unfold rdc; decide)) (by unfold rdc; decide)) (by unfold rdc; decide)
  have jr : I1 kx_reader = I kx_reader := by rw [hI1]; simp (disch := first | omega | decide) only [nl_add1, nl_add2, nl_mul1, nl_mul2, nl_sub1, nl_lt1, nl_lt2, nl_le1, nl_le2, nl_eq1, nl_eq2, nl_m1, nl_m2, nl_inT, nI_add, nI_mul, nI_leI, nI_ltI, nI_eq, nI_clamp, nl_bit, oI_n, oI_s, oI_m1, true_and, and_true, eq_self, Bool.false_eq_true, not_false_eq_true, not_true_eq_false, false_implies, true_implies, implies_true, forall_const, Nat.not_lt_zero, ab_row_eq, ab_row_ne, ab_up_i, ab_up_o, pk_us, pk_un, ab_row_row]
  have c1 : cT I1 b Z := ⟨by rw [jr]; exact h.1, h.2.1, fun j hj => by rw [f1 _ (by unfold rdc; decide)]; exact h.2.2 j hj⟩
  obtain ⟨I2, g1, g2, g3⟩ := k_next (d := d + 3) (w := w) (n := n) (nc := nc) (ns := ns) (L := L) hT c1 (Nat.zero_le Z) (by rw [jr]; exact h3)
  have tb := tk_b (b := b) (Nat.zero_le Z)
  have z0 : ∀ j, j < 32 → bt (0 : Int32) j = false := fun j hj => b_0 j
  have cr : cRt I2 b Z (tk b Z 0) (4, 0, fun _ => false, fun _ => 0, fun _ => 0, fun _ => 0, fun _ => 0) := by
    refine ⟨cT_mv g1 c1, g2, ⟨tb.1, tb.2.2.1, tb.2.2.2.1, tb.2.2.2.2.2⟩, by rw [g1.2 7 (by decide) (by decide) (by decide) (by decide), jr]; exact h7, by rw [g1.2 8 (by decide) (by decide) (by decide) (by decide), jr]; exact h8, ?_⟩
    refine ⟨by rw [g1.1 _ (by decide), hI1]; simp (disch := first | omega | decide) only [nl_add1, nl_add2, nl_mul1, nl_mul2, nl_sub1, nl_lt1, nl_lt2, nl_le1, nl_le2, nl_eq1, nl_eq2, nl_m1, nl_m2, nl_inT, nI_add, nI_mul, nI_leI, nI_ltI, nI_eq, nI_clamp, nl_bit, oI_n, oI_s, oI_m1, true_and, and_true, eq_self, Bool.false_eq_true, not_false_eq_true, not_true_eq_false, false_implies, true_implies, implies_true, forall_const, Nat.not_lt_zero, ab_row_eq, ab_row_ne, ab_up_i, ab_up_o, pk_us, pk_un, ab_row_row], by rw [g1.1 _ (by decide), hI1]; simp (disch := first | omega | decide) only [nl_add1, nl_add2, nl_mul1, nl_mul2, nl_sub1, nl_lt1, nl_lt2, nl_le1, nl_le2, nl_eq1, nl_eq2, nl_m1, nl_m2, nl_inT, nI_add, nI_mul, nI_leI, nI_ltI, nI_eq, nI_clamp, nl_bit, oI_n, oI_s, oI_m1, true_and, and_true, eq_self, Bool.false_eq_true, not_false_eq_true, not_true_eq_false, false_implies, true_implies, implies_true, forall_const, Nat.not_lt_zero, ab_row_eq, ab_row_ne, ab_up_i, ab_up_o, pk_us, pk_un, ab_row_row], by show 2 ≤ 4; omega, by show 4 ≤ 10; omega, Nat.zero_le _, fun k hk => ?_, fun k hk => (by cases hk), fun k hk => absurd hk (Nat.not_lt_zero k)⟩
    rw [g1.1 _ (by decide), hI1, ab_up_i, pk_us]; exact z0 k hk
  obtain ⟨J, r, k1, k2, k3⟩ := k_textLoop (d := d) (w := w) (n := n) (nc := nc) (ns := ns) (L := L) hT 701 0 _ _ I2 (by omega) (Nat.zero_le _) tb.2.2.2.2.1 (fun _ => rfl) cr
  refine ⟨J, r, rdf_trans k1 (rdf_trans (rdf_mv g1) f1), k2, ?_⟩
  refine ab_C_of (by decide) rfl (Nat.le_of_ble_eq_true rfl) hT ?_
  refine r_Reader_readText_0 hT (Nat.le_refl _) (Nat.le_refl _) ?_
  rw [← hI1]
  exact ⟨_, g3, k3⟩
end KTX
