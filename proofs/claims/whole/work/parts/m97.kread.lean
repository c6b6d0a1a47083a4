/-! NET: the class reads a clause -/
def cabP (b : Nat → Nat) (Z : Nat) (t : Tk) (S N : Nat) : Sum (Nat × Nat) ((Nat × Nat × Nat × Nat) × Tk) :=
  if N < 24 then
    match sit (nxt b Z t) S with
    | .inl f => .inl f
    | .inr x => match sit (nxt b Z (nxt b Z t)) S with
      | .inl f => .inl f
      | .inr y => if x = y then .inl (5, (nxt b Z (nxt b Z t)).2.1) else
        match num (nxt b Z (nxt b Z (nxt b Z t))) 1 999 with
        | .inl f => .inl f
        | .inr p => if (nxt b Z (nxt b Z (nxt b Z (nxt b Z t)))).1 = 2 then
            match num (nxt b Z (nxt b Z (nxt b Z (nxt b Z t)))) 0 3 with
            | .inl f => .inl f
            | .inr g => .inr ((x, y, p, g), nxt b Z (nxt b Z (nxt b Z (nxt b Z (nxt b Z t)))))
          else .inr ((x, y, p, 0), nxt b Z (nxt b Z (nxt b Z (nxt b Z t))))
  else .inl (2, t.2.1)
def brkP (b : Nat → Nat) (Z : Nat) (t : Tk) (N : Nat) (sd : Nat → Bool) : Sum (Nat × Nat) (Nat × Tk) :=
  match num (nxt b Z t) 0 23 with
  | .inl f => .inl f
  | .inr k => if k < N then (if sd k = true then .inr (k, nxt b Z (nxt b Z t)) else .inl (4, (nxt b Z t).2.1)) else .inl (3, (nxt b Z t).2.1)
def stsP (b : Nat → Nat) (Z : Nat) (t : Tk) (first : Bool) : Sum (Nat × Nat) (Nat × Tk) :=
  if first = true then
    match num (nxt b Z t) 2 10 with
    | .inl f => .inl f
    | .inr S => .inr (S, nxt b Z (nxt b Z t))
  else .inl (4, t.2.1)
/-- the cables that were read, in the class's cells -/
def cB (I : Nat → Nat → Int32) (S N : Nat) (sd : Nat → Bool) (e1 e2 pr fm : Nat → Nat) : Prop := I kx_trial 0 = nI S ∧ I kx_trial 1 = nI N ∧ 2 ≤ S ∧ S ≤ 10 ∧ N ≤ 24 ∧ (∀ k, k < 32 → bt (I kx_trial 2) k = sd k) ∧ (∀ k, sd k = true → k < N) ∧ ∀ k, k < N → (I kx_trial_first k = nI (e1 k) ∧ I kx_trial_second k = nI (e2 k) ∧ I kx_trial_price k = nI (pr k) ∧ I kx_trial_firm k = nI (fm k)) ∧ e1 k < S ∧ e2 k < S ∧ 1 ≤ pr k ∧ pr k ≤ 999 ∧ fm k < 4 ∧ e1 k ≠ e2 k
def cR (I : Nat → Nat → Int32) (b : Nat → Nat) (Z : Nat) (t : Tk) (S N : Nat) (sd : Nat → Bool) (e1 e2 pr fm : Nat → Nat) : Prop := cT I b Z ∧ rAt I t ∧ tOk Z t ∧ I kx_reader 7 = 0 ∧ I kx_reader 8 = -1 ∧ cB I S N sd e1 e2 pr fm
def rdc (c : Nat) : Prop := c = kx_reader ∨ c = kx_trial ∨ c = kx_trial_first ∨ c = kx_trial_second ∨ c = kx_trial_price ∨ c = kx_trial_firm ∨ c = kx_trial_order
def rdf (J I : Nat → Nat → Int32) : Prop := ∀ c, ¬ rdc c → J c = I c
theorem rdf_trans {K J I : Nat → Nat → Int32} (h : rdf K J) (g : rdf J I) : rdf K I := fun c hc => (h c hc).trans (g c hc)
theorem rdf_refl {I : Nat → Nat → Int32} : rdf I I := fun _ _ => rfl
theorem rdf_mv {J I : Nat → Nat → Int32} (h : rmv J I) : rdf J I := fun c hc => h.1 c (fun e => hc (Or.inl e))
theorem rdf_up {J I : Nat → Nat → Int32} {c k : Nat} {x : Int32} (h : rdf J I) (hc : rdc c) : rdf (ab_up J c k x) I := fun a ha => by rw [ab_up_o (fun e => ha (by rw [e]; exact hc))]; exact h a ha
def rno (J I : Nat → Nat → Int32) : Prop := ∀ c, c ≠ kx_reader → J c = I c
theorem rno_trans {K J I : Nat → Nat → Int32} (h : rno K J) (g : rno J I) : rno K I := fun c hc => (h c hc).trans (g c hc)
theorem rno_mv {J I : Nat → Nat → Int32} (h : rmv J I) : rno J I := h.1
theorem rno_flt {I : Nat → Nat → Int32} {c a : Nat} : rno (flt I c a) I := fun x hx => by unfold flt; rw [ab_up_o hx, ab_up_o hx]
theorem rno_rd {J I : Nat → Nat → Int32} (h : rno J I) : rdf J I := fun c hc => h c (fun e => hc (Or.inl e))
theorem rdf_flt {I : Nat → Nat → Int32} {c a : Nat} : rdf (flt I c a) I := rdf_up (rdf_up rdf_refl (Or.inl rfl)) (Or.inl rfl)
section KRD
variable {w : ab_Wd} {d n nc ns : Nat} {I : Nat → Nat → Int32} {L : Nat → Nat → Int64}
variable {b : Nat → Nat} {Z : Nat} {t : Tk} {S N : Nat} {sd : Nat → Bool} {e1 e2 pr fm : Nat → Nat}
theorem cB_cong {J : Nat → Nat → Int32} (z : ∀ c, c ≠ kx_reader → J c = I c) (h : cB I S N sd e1 e2 pr fm) : cB J S N sd e1 e2 pr fm := by
  unfold cB at *
  rw [z kx_trial (by decide), z kx_trial_first (by decide), z kx_trial_second (by decide), z kx_trial_price (by decide), z kx_trial_firm (by decide)]; exact h
/-- one sign on, without a fault -/
theorem A_next (hT : w.1.stackTraces = false) (h : cR I b Z t S N sd e1 e2 pr fm) : ∃ J, rmv J I ∧ cR J b Z (nxt b Z t) S N sd e1 e2 pr fm ∧ ab_U w (d + 2) mt_Reader_toNext [.ref kx_reader] I L n nc ns J := by
  obtain ⟨h1, h2, h3, h4, h5, h6⟩ := h
  obtain ⟨J, g1, g2, g3⟩ := k_next (d := d) (w := w) (n := n) (nc := nc) (ns := ns) (L := L) hT h1 h3.2.2.1 h2.2.2.1
  exact ⟨J, g1, ⟨cT_mv g1 h1, g2, (nxt_ok h3).1, by rw [g1.2 7 (by decide) (by decide) (by decide) (by decide)]; exact h4, by rw [g1.2 8 (by decide) (by decide) (by decide) (by decide)]; exact h5, cB_cong g1.1 h6⟩, g3⟩
theorem cR_F (h : cR I b Z t S N sd e1 e2 pr fm) {c a : Nat} (h1 : 1 ≤ c) (h5 : c ≤ 5) : cF (flt I c a) b Z c a := cF_flt h.1 ⟨_, h.2.2.1.2.2.1, h.2.1.2.2.1⟩ h1 h5
theorem B85 (hT : w.1.stackTraces = false) {c a : Nat} (h : cF I b Z c a) (v1 v2 v3 v4 : Int32) : ab_E w ((d + 2) + 1) mt_Reader_readCable 85 [.ref kx_reader, .int v1, .int v2, .int v3, .int v4] [] (I, L, ab_RR, n, nc, ns) (.inl none, (I, L, ab_RR, n, nc, ns)) := by
  refine r_Reader_readCable_85 hT _ _ _ _ (Nat.le_refl _) (Nat.le_refl _) ?_
  refine bb_f' (cF_ne h) ?_
  refine r_Reader_readCable_105 hT _ _ _ _ (Nat.le_refl _) (Nat.le_refl _) ?_
  rfl
theorem B45 (hT : w.1.stackTraces = false) {c a : Nat} (h : cF I b Z c a) (v1 v2 : Int32) : ∃ J, rmv J I ∧ cF J b Z c a ∧ ab_E w ((d + 2) + 1) mt_Reader_readCable 45 [.ref kx_reader, .int v1, .int v2, .null, .null] [] (I, L, ab_RR, n, nc, ns) (.inl none, (J, L, ab_RR, n, nc, ns)) := by
  obtain ⟨I2, f2, c2, u2⟩ := B_next (d := d) (w := w) (n := n) (nc := nc) (ns := ns) (L := L) hT h
  obtain ⟨r3, u3⟩ := B_num (d := d + 1) (w := w) (n := n) (nc := nc) (ns := ns) (L := L) hT (cF_ne c2) 1 999
  obtain ⟨I6, f6, c6, u6⟩ := B_next (d := d) (w := w) (n := n) (nc := nc) (ns := ns) (L := L) hT c2
  by_cases k : I6 kx_reader 4 = 2
  · obtain ⟨r8, u8⟩ := B_num (d := d + 1) (w := w) (n := n) (nc := nc) (ns := ns) (L := L) hT (cF_ne c6) 0 3
    obtain ⟨J, f9, c9, u9⟩ := B_next (d := d) (w := w) (n := n) (nc := nc) (ns := ns) (L := L) hT c6
    refine ⟨J, rmv_trans f9 (rmv_trans f6 f2), c9, ?_⟩
    refine r_Reader_readCable_45 hT _ _ (Nat.le_refl _) (Nat.le_refl _) ?_
    exact ⟨_, u2, _, _, u3, _, u6, bb_t' k ⟨_, _, u8, _, u9, B85 (d := d) (w := w) (n := n) (nc := nc) (ns := ns) (L := L) hT c9 _ _ _ _⟩⟩
  · refine ⟨I6, rmv_trans f6 f2, c6, ?_⟩
    refine r_Reader_readCable_45 hT _ _ (Nat.le_refl _) (Nat.le_refl _) ?_
    exact ⟨_, u2, _, _, u3, _, u6, bb_f' k (B85 (d := d) (w := w) (n := n) (nc := nc) (ns := ns) (L := L) hT c6 _ _ _ _)⟩
theorem B17 (hT : w.1.stackTraces = false) {c a : Nat} (h : cF I b Z c a) : ∃ J, rmv J I ∧ cF J b Z c a ∧ ab_E w ((d + 2) + 1) mt_Reader_readCable 17 [.ref kx_reader, .null, .null, .null, .null] [] (I, L, ab_RR, n, nc, ns) (.inl none, (J, L, ab_RR, n, nc, ns)) := by
  obtain ⟨I2, f2, c2, u2⟩ := B_next (d := d) (w := w) (n := n) (nc := nc) (ns := ns) (L := L) hT h
  obtain ⟨r3, u3⟩ := B_site (d := d) (w := w) (n := n) (nc := nc) (ns := ns) (L := L) hT (cF_ne c2)
  obtain ⟨I6, f6, c6, u6⟩ := B_next (d := d) (w := w) (n := n) (nc := nc) (ns := ns) (L := L) hT c2
  obtain ⟨r7, u7⟩ := B_site (d := d) (w := w) (n := n) (nc := nc) (ns := ns) (L := L) hT (cF_ne c6)
  obtain ⟨J, f8, c8, u8⟩ := B45 (d := d) (w := w) (n := n) (nc := nc) (ns := ns) (L := L) hT c6 r3 r7
  refine ⟨J, rmv_trans f8 (rmv_trans f6 f2), c8, ?_⟩
  refine r_Reader_readCable_17 hT (Nat.le_refl _) (Nat.le_refl _) ?_
  refine ⟨_, u2, _, _, u3, _, u6, _, _, u7, ?_⟩
  by_cases e : r3 = r7
  · exact bb_t' e (bb_f (cF_ne c6) u8)
  · exact bb_f' e u8
theorem k_readCable (hT : w.1.stackTraces = false) (h : cR I b Z t S N sd e1 e2 pr fm) : (∃ c a, cabP b Z t S N = .inl (c, a) ∧ ∃ J, rno J I ∧ cF J b Z c a ∧ ab_U w (d + 3) mt_Reader_readCable [.ref kx_reader] I L n nc ns J) ∨ (∃ x y p f t', cabP b Z t S N = .inr ((x, y, p, f), t') ∧ N < 24 ∧ t.2.2.1 ≤ t'.2.1 ∧ ∃ J, rdf J I ∧ cR J b Z t' S (N + 1) (un sd N true) (un e1 N x) (un e2 N y) (un pr N p) (un fm N f) ∧ ab_U w (d + 3) mt_Reader_readCable [.ref kx_reader] I L n nc ns J) := by
  have hZ := h.1.2.1
  have i1 : I kx_trial 1 = nI N := h.2.2.2.2.2.2.1
  have hS2 := h.2.2.2.2.2.2.2.1
  have hS10 := h.2.2.2.2.2.2.2.2.1
  have hN := h.2.2.2.2.2.2.2.2.2.1
  by_cases h24 : N < 24
  case neg =>
    left
    obtain ⟨J, f, c, u⟩ := B17 (d := d) (w := w) (n := n) (nc := nc) (ns := ns) (L := L) hT (cR_F h (c := 2) (a := t.2.1) (by omega) (by omega))
    refine ⟨2, t.2.1, by unfold cabP; rw [if_neg h24], J, rno_trans (rno_mv f) rno_flt, c, ?_⟩
    refine ab_C_of (by decide) rfl (Nat.le_of_ble_eq_true rfl) hT ?_
    refine r_Reader_readCable_0 hT (Nat.le_refl _) (Nat.le_refl _) ?_
    rw [i1, h.2.1.2.1]
    exact bb_f (fun g => h24 ((nI_ltI (b := 24) (by omega) (by omega)).mp g)) (bb_t h.2.2.2.1 u)
  have st0 : ∀ res, ab_E w ((d + 2) + 1) mt_Reader_readCable 17 [.ref kx_reader, .null, .null, .null, .null] [] (I, L, ab_RR, n, nc, ns) (.inl none, (res, L, ab_RR, n, nc, ns)) → ab_U w (d + 3) mt_Reader_readCable [.ref kx_reader] I L n nc ns res := fun res u => by
    refine ab_C_of (by decide) rfl (Nat.le_of_ble_eq_true rfl) hT ?_
    refine r_Reader_readCable_0 hT (Nat.le_refl _) (Nat.le_refl _) ?_
    rw [i1]
    exact bb_t ((nI_ltI (b := 24) (by omega) (by omega)).mpr h24) u
  obtain ⟨I2, f2, c2, u2⟩ := A_next (d := d) (w := w) (n := n) (nc := nc) (ns := ns) (L := L) hT h
  have o1 := nxt_ok (b := b) h.2.2.1
  have o2 := nxt_ok (b := b) o1.1
  have o3 := nxt_ok (b := b) o2.1
  have o4 := nxt_ok (b := b) o3.1
  have o5 := nxt_ok (b := b) o4.1
  rcases k_site (d := d) (w := w) (n := n) (nc := nc) (ns := ns) (L := L) hT hZ c2.2.2.1 c2.2.1 c2.2.2.2.1 c2.2.2.2.2.2.1 hS2 hS10 with ⟨c, a, s1, s2, s3, r3, u3⟩ | ⟨x, s1, s2, u3⟩
  · left
    obtain ⟨I6, f6, c6, u6⟩ := B_next (d := d) (w := w) (n := n) (nc := nc) (ns := ns) (L := L) hT (cR_F c2 (c := c) (a := a) s2 s3)
    obtain ⟨r7, u7⟩ := B_site (d := d) (w := w) (n := n) (nc := nc) (ns := ns) (L := L) hT (cF_ne c6)
    obtain ⟨J, f8, c8, u8⟩ := B45 (d := d) (w := w) (n := n) (nc := nc) (ns := ns) (L := L) hT c6 r3 r7
    refine ⟨c, a, by unfold cabP; rw [if_pos h24, s1], J, rno_trans (rno_mv (rmv_trans f8 f6)) (rno_trans rno_flt (rno_mv f2)), c8, st0 _ ?_⟩
    refine r_Reader_readCable_17 hT (Nat.le_refl _) (Nat.le_refl _) ?_
    refine ⟨_, u2, _, _, u3, _, u6, _, _, u7, ?_⟩
    by_cases e : r3 = r7
    · exact bb_t' e (bb_f (cF_ne c6) u8)
    · exact bb_f' e u8
  obtain ⟨I6, f6, c6, u6⟩ := A_next (d := d) (w := w) (n := n) (nc := nc) (ns := ns) (L := L) hT c2
  rcases k_site (d := d) (w := w) (n := n) (nc := nc) (ns := ns) (L := L) hT hZ c6.2.2.1 c6.2.1 c6.2.2.2.1 c6.2.2.2.2.2.1 hS2 hS10 with ⟨c, a, q1, q2, q3, r7, u7⟩ | ⟨y, q1, q2, u7⟩
  · left
    have cf := cR_F c6 (c := c) (a := a) q2 q3
    obtain ⟨J, f8, c8, u8⟩ := B45 (d := d) (w := w) (n := n) (nc := nc) (ns := ns) (L := L) hT cf (nI x) r7
    refine ⟨c, a, by unfold cabP; rw [if_pos h24, s1]; simp only [q1], J, rno_trans (rno_mv f8) (rno_trans rno_flt (rno_mv (rmv_trans f6 f2))), c8, st0 _ ?_⟩
    refine r_Reader_readCable_17 hT (Nat.le_refl _) (Nat.le_refl _) ?_
    refine ⟨_, u2, _, _, u3, _, u6, _, _, u7, ?_⟩
    by_cases e : nI x = r7
    · exact bb_t' e (bb_f (cF_ne cf) u8)
    · exact bb_f' e u8
  by_cases hxy : x = y
  · left
    have cf := cR_F c6 (c := 5) (a := (nxt b Z (nxt b Z t)).2.1) (by omega) (by omega)
    obtain ⟨J, f8, c8, u8⟩ := B45 (d := d) (w := w) (n := n) (nc := nc) (ns := ns) (L := L) hT cf (nI x) (nI y)
    refine ⟨5, (nxt b Z (nxt b Z t)).2.1, by unfold cabP; rw [if_pos h24, s1]; simp only [q1, if_pos hxy], J, rno_trans (rno_mv f8) (rno_trans rno_flt (rno_mv (rmv_trans f6 f2))), c8, st0 _ ?_⟩
    refine r_Reader_readCable_17 hT (Nat.le_refl _) (Nat.le_refl _) ?_
    refine ⟨_, u2, _, _, u3, _, u6, _, _, u7, bb_t' (congrArg nI hxy) (bb_t c6.2.2.2.1 ?_)⟩
    rw [c6.2.1.2.1]; exact u8
  have st1 : ∀ res, ab_E w ((d + 2) + 1) mt_Reader_readCable 45 [.ref kx_reader, .int (nI x), .int (nI y), .null, .null] [] (I6, L, ab_RR, n, nc, ns) (.inl none, (res, L, ab_RR, n, nc, ns)) → ab_U w (d + 3) mt_Reader_readCable [.ref kx_reader] I L n nc ns res := fun res u => by
    refine st0 _ ?_
    refine r_Reader_readCable_17 hT (Nat.le_refl _) (Nat.le_refl _) ?_
    exact ⟨_, u2, _, _, u3, _, u6, _, _, u7, bb_f' (fun e => hxy ((nI_eq (by omega) (by omega)).mp e)) u⟩
  obtain ⟨I8, f8, c8, u8⟩ := A_next (d := d) (w := w) (n := n) (nc := nc) (ns := ns) (L := L) hT c6
  have hn : (1 : Int32) = nI 1 := rfl
  have hm : (999 : Int32) = nI 999 := rfl
  rcases k_num (d := d + 1) (w := w) (n := n) (nc := nc) (ns := ns) (L := L) hT hZ c8.2.2.1 c8.2.1 c8.2.2.2.1 (lo := 1) (hi := 999) (by omega) (by omega) with ⟨c, g1, g2, g3, u9⟩ | ⟨p, g1, g2, g3, u9⟩
  · left
    have cf := cR_F c8 (c := c) (a := (nxt b Z (nxt b Z (nxt b Z t))).2.1) g2 (by omega)
    obtain ⟨J1, f10, c10, u10⟩ := B_next (d := d) (w := w) (n := n) (nc := nc) (ns := ns) (L := L) hT cf
    by_cases k : J1 kx_reader 4 = 2
    · obtain ⟨r8, u11⟩ := B_num (d := d + 1) (w := w) (n := n) (nc := nc) (ns := ns) (L := L) hT (cF_ne c10) 0 3
      obtain ⟨J, f12, c12, u12⟩ := B_next (d := d) (w := w) (n := n) (nc := nc) (ns := ns) (L := L) hT c10
      refine ⟨c, _, by unfold cabP; rw [if_pos h24, s1]; simp only [q1, if_neg hxy, g1], J, rno_trans (rno_mv (rmv_trans f12 f10)) (rno_trans rno_flt (rno_mv (rmv_trans f8 (rmv_trans f6 f2)))), c12, st1 _ ?_⟩
      refine r_Reader_readCable_45 hT _ _ (Nat.le_refl _) (Nat.le_refl _) ?_
      exact ⟨_, u8, _, _, u9, _, u10, bb_t' k ⟨_, _, u11, _, u12, B85 (d := d) (w := w) (n := n) (nc := nc) (ns := ns) (L := L) hT c12 _ _ _ _⟩⟩
    · refine ⟨c, _, by unfold cabP; rw [if_pos h24, s1]; simp only [q1, if_neg hxy, g1], J1, rno_trans (rno_mv f10) (rno_trans rno_flt (rno_mv (rmv_trans f8 (rmv_trans f6 f2)))), c10, st1 _ ?_⟩
      refine r_Reader_readCable_45 hT _ _ (Nat.le_refl _) (Nat.le_refl _) ?_
      exact ⟨_, u8, _, _, u9, _, u10, bb_f' k (B85 (d := d) (w := w) (n := n) (nc := nc) (ns := ns) (L := L) hT c10 _ _ _ _)⟩
  obtain ⟨I10, f10, c10, u10⟩ := A_next (d := d) (w := w) (n := n) (nc := nc) (ns := ns) (L := L) hT c8
  -- the cable is put behind the others
  have put : ∀ (K : Nat → Nat → Int32) (t' : Tk) (f : Nat), cR K b Z t' S N sd e1 e2 pr fm → f < 4 → ∃ J, rdf J K ∧ cR J b Z t' S (N + 1) (un sd N true) (un e1 N x) (un e2 N y) (un pr N p) (un fm N f) ∧ ab_E w ((d + 2) + 1) mt_Reader_readCable 85 [.ref kx_reader, .int (nI x), .int (nI y), .int (nI p), .int (nI f)] [] (K, L, ab_RR, n, nc, ns) (.inl none, (J, L, ab_RR, n, nc, ns)) := by
    intro K t' f hK hf
    obtain ⟨k1, k2, k3, k4, k5, ⟨b0, b1, b2, b3, b4, b5, b6, b7⟩⟩ := hK
    obtain ⟨J, hJ⟩ : ∃ J, J = ab_up (ab_up (ab_up (ab_up (ab_up (ab_up K kx_trial_first N (nI x)) kx_trial_second N (nI y)) kx_trial_price N (nI p)) kx_trial_firm N (nI f)) kx_trial 2 ((K kx_trial 2) ||| ((1 : Int32) <<< (nI N &&& 31)))) kx_trial 1 (nI (N + 1)) := ⟨_, rfl⟩
    have fJ : rdf J K := by
      rw [hJ]
      exact rdf_up (rdf_up (rdf_up (rdf_up (rdf_up (rdf_up rdf_refl (by unfold rdc; decide)) (by unfold rdc; decide)) (by unfold rdc; decide)) (by unfold rdc; decide)) (by unfold rdc; decide)) (by unfold rdc; decide)
    have jr : J kx_reader = K kx_reader := by rw [hJ]; simp (disch := first | omega | decide) only [nl_add1, nl_add2, nl_mul1, nl_mul2, nl_sub1, nl_lt1, nl_lt2, nl_le1, nl_le2, nl_eq1, nl_eq2, nl_m1, nl_m2, nl_inT, nI_add, nI_mul, nI_leI, nI_ltI, nI_eq, nI_clamp, nl_bit, oI_n, oI_s, oI_m1, true_and, and_true, eq_self, Bool.false_eq_true, not_false_eq_true, not_true_eq_false, false_implies, true_implies, implies_true, forall_const, Nat.not_lt_zero, ab_row_eq, ab_row_ne, ab_up_i, ab_up_o, pk_us, pk_un, ab_row_row]
    have jt : J kx_tape = K kx_tape := fJ _ (by unfold rdc; decide)
    have jf : J kx_trial_first = upd (K kx_trial_first) N (nI x) := by rw [hJ]; simp (disch := first | omega | decide) only [nl_add1, nl_add2, nl_mul1, nl_mul2, nl_sub1, nl_lt1, nl_lt2, nl_le1, nl_le2, nl_eq1, nl_eq2, nl_m1, nl_m2, nl_inT, nI_add, nI_mul, nI_leI, nI_ltI, nI_eq, nI_clamp, nl_bit, oI_n, oI_s, oI_m1, true_and, and_true, eq_self, Bool.false_eq_true, not_false_eq_true, not_true_eq_false, false_implies, true_implies, implies_true, forall_const, Nat.not_lt_zero, ab_row_eq, ab_row_ne, ab_up_i, ab_up_o, pk_us, pk_un, ab_row_row]
    have js : J kx_trial_second = upd (K kx_trial_second) N (nI y) := by rw [hJ]; simp (disch := first | omega | decide) only [nl_add1, nl_add2, nl_mul1, nl_mul2, nl_sub1, nl_lt1, nl_lt2, nl_le1, nl_le2, nl_eq1, nl_eq2, nl_m1, nl_m2, nl_inT, nI_add, nI_mul, nI_leI, nI_ltI, nI_eq, nI_clamp, nl_bit, oI_n, oI_s, oI_m1, true_and, and_true, eq_self, Bool.false_eq_true, not_false_eq_true, not_true_eq_false, false_implies, true_implies, implies_true, forall_const, Nat.not_lt_zero, ab_row_eq, ab_row_ne, ab_up_i, ab_up_o, pk_us, pk_un, ab_row_row]
    have jp : J kx_trial_price = upd (K kx_trial_price) N (nI p) := by rw [hJ]; simp (disch := first | omega | decide) only [nl_add1, nl_add2, nl_mul1, nl_mul2, nl_sub1, nl_lt1, nl_lt2, nl_le1, nl_le2, nl_eq1, nl_eq2, nl_m1, nl_m2, nl_inT, nI_add, nI_mul, nI_leI, nI_ltI, nI_eq, nI_clamp, nl_bit, oI_n, oI_s, oI_m1, true_and, and_true, eq_self, Bool.false_eq_true, not_false_eq_true, not_true_eq_false, false_implies, true_implies, implies_true, forall_const, Nat.not_lt_zero, ab_row_eq, ab_row_ne, ab_up_i, ab_up_o, pk_us, pk_un, ab_row_row]
    have jm : J kx_trial_firm = upd (K kx_trial_firm) N (nI f) := by rw [hJ]; simp (disch := first | omega | decide) only [nl_add1, nl_add2, nl_mul1, nl_mul2, nl_sub1, nl_lt1, nl_lt2, nl_le1, nl_le2, nl_eq1, nl_eq2, nl_m1, nl_m2, nl_inT, nI_add, nI_mul, nI_leI, nI_ltI, nI_eq, nI_clamp, nl_bit, oI_n, oI_s, oI_m1, true_and, and_true, eq_self, Bool.false_eq_true, not_false_eq_true, not_true_eq_false, false_implies, true_implies, implies_true, forall_const, Nat.not_lt_zero, ab_row_eq, ab_row_ne, ab_up_i, ab_up_o, pk_us, pk_un, ab_row_row]
    have j0 : J kx_trial 0 = nI S := by rw [hJ]; simp (disch := first | omega | decide) only [b0, nl_add1, nl_add2, nl_mul1, nl_mul2, nl_sub1, nl_lt1, nl_lt2, nl_le1, nl_le2, nl_eq1, nl_eq2, nl_m1, nl_m2, nl_inT, nI_add, nI_mul, nI_leI, nI_ltI, nI_eq, nI_clamp, nl_bit, oI_n, oI_s, oI_m1, true_and, and_true, eq_self, Bool.false_eq_true, not_false_eq_true, not_true_eq_false, false_implies, true_implies, implies_true, forall_const, Nat.not_lt_zero, ab_row_eq, ab_row_ne, ab_up_i, ab_up_o, pk_us, pk_un, ab_row_row]
    have j1 : J kx_trial 1 = nI (N + 1) := by rw [hJ]; simp (disch := first | omega | decide) only [nl_add1, nl_add2, nl_mul1, nl_mul2, nl_sub1, nl_lt1, nl_lt2, nl_le1, nl_le2, nl_eq1, nl_eq2, nl_m1, nl_m2, nl_inT, nI_add, nI_mul, nI_leI, nI_ltI, nI_eq, nI_clamp, nl_bit, oI_n, oI_s, oI_m1, true_and, and_true, eq_self, Bool.false_eq_true, not_false_eq_true, not_true_eq_false, false_implies, true_implies, implies_true, forall_const, Nat.not_lt_zero, ab_row_eq, ab_row_ne, ab_up_i, ab_up_o, pk_us, pk_un, ab_row_row]
    have j2 : J kx_trial 2 = (K kx_trial 2) ||| ((1 : Int32) <<< (nI N &&& 31)) := by rw [hJ]; simp (disch := first | omega | decide) only [nl_add1, nl_add2, nl_mul1, nl_mul2, nl_sub1, nl_lt1, nl_lt2, nl_le1, nl_le2, nl_eq1, nl_eq2, nl_m1, nl_m2, nl_inT, nI_add, nI_mul, nI_leI, nI_ltI, nI_eq, nI_clamp, nl_bit, oI_n, oI_s, oI_m1, true_and, and_true, eq_self, Bool.false_eq_true, not_false_eq_true, not_true_eq_false, false_implies, true_implies, implies_true, forall_const, Nat.not_lt_zero, ab_row_eq, ab_row_ne, ab_up_i, ab_up_o, pk_us, pk_un, ab_row_row]
    refine ⟨J, fJ, ⟨⟨by rw [jr]; exact k1.1, k1.2.1, fun j hj => by rw [jt]; exact k1.2.2 j hj⟩, by unfold rAt; rw [jr]; exact k2, k3, by rw [jr]; exact k4, by rw [jr]; exact k5, j0, j1, b2, b3, by omega, fun k hk => ?_, fun k hk => ?_, fun k hk => ?_⟩, ?_⟩
    · rw [j2, b_or, b5 k hk, ab_sh1 (by omega) hk]
      by_cases e : k = N
      · rw [e, un_s, decide_eq_true rfl, Bool.or_true]
      · rw [un_o e, decide_eq_false e, Bool.or_false]
    · by_cases e : k = N
      · omega
      · rw [un_o e] at hk; have := b6 k hk; omega
    · rw [jf, js, jp, jm]
      by_cases e : k = N
      · rw [e, pk_us, pk_us, pk_us, pk_us, un_s, un_s, un_s, un_s]
        exact ⟨⟨rfl, rfl, rfl, rfl⟩, s2, q2, g2, g3, hf, hxy⟩
      · rw [pk_un e, pk_un e, pk_un e, pk_un e, un_o e, un_o e, un_o e, un_o e]
        exact b7 k (by omega)
    · refine r_Reader_readCable_85 hT _ _ _ _ (Nat.le_refl _) (Nat.le_refl _) ?_
      rw [b1, nI_clamp (by omega), nI_1, ← hJ]
      refine bb_t' k4 (bb_t ((nI_ltI (b := 24) (by omega) (by omega)).mpr h24) ⟨vp_in_nI (by omega) (by omega), ?_⟩)
      refine r_Reader_readCable_105 hT _ _ _ _ (Nat.le_refl _) (Nat.le_refl _) ?_
      rfl
  by_cases k : (nxt b Z (nxt b Z (nxt b Z (nxt b Z t)))).1 = 2
  · have k' : I10 kx_reader 4 = 2 := by rw [c10.2.1.1, k]; rfl
    rcases k_num (d := d + 1) (w := w) (n := n) (nc := nc) (ns := ns) (L := L) hT hZ c10.2.2.1 c10.2.1 c10.2.2.2.1 (lo := 0) (hi := 3) (by omega) (by omega) with ⟨c, v1, v2, v3, u11⟩ | ⟨f, v1, v2, v3, u11⟩
    · left
      have cf := cR_F c10 (c := c) (a := (nxt b Z (nxt b Z (nxt b Z (nxt b Z t)))).2.1) v2 (by omega)
      obtain ⟨J, f12, c12, u12⟩ := B_next (d := d) (w := w) (n := n) (nc := nc) (ns := ns) (L := L) hT cf
      refine ⟨c, _, by unfold cabP; rw [if_pos h24, s1]; simp only [q1, if_neg hxy, g1, if_pos k, v1], J, rno_trans (rno_mv f12) (rno_trans rno_flt (rno_mv (rmv_trans f10 (rmv_trans f8 (rmv_trans f6 f2))))), c12, st1 _ ?_⟩
      refine r_Reader_readCable_45 hT _ _ (Nat.le_refl _) (Nat.le_refl _) ?_
      exact ⟨_, u8, _, _, u9, _, u10, bb_t' k' ⟨_, _, u11, _, u12, B85 (d := d) (w := w) (n := n) (nc := nc) (ns := ns) (L := L) hT c12 _ _ _ _⟩⟩
    · right
      obtain ⟨I12, f12, c12, u12⟩ := A_next (d := d) (w := w) (n := n) (nc := nc) (ns := ns) (L := L) hT c10
      obtain ⟨J, f13, c13, u13⟩ := put I12 _ f c12 (by omega)
      refine ⟨x, y, p, f, _, by unfold cabP; rw [if_pos h24, s1]; simp only [q1, if_neg hxy, g1, if_pos k, v1], h24, ?_, J, rdf_trans f13 (rdf_mv (rmv_trans f12 (rmv_trans f10 (rmv_trans f8 (rmv_trans f6 f2))))), c13, st1 _ ?_⟩
      · have a1 := o1.1.2.1; have a2 := o2.1.2.1; have a3 := o3.1.2.1; have a4 := o4.1.2.1
        have b1 := o1.2; have b2 := o2.2; have b3 := o3.2; have b4 := o4.2; have b5 := o5.2
        omega
      · refine r_Reader_readCable_45 hT _ _ (Nat.le_refl _) (Nat.le_refl _) ?_
        exact ⟨_, u8, _, _, u9, _, u10, bb_t' k' ⟨_, _, u11, _, u12, u13⟩⟩
  · right
    have k' : ¬ I10 kx_reader 4 = 2 := fun e => k (by rw [c10.2.1.1] at e; exact (nI_eq (b := 2) (by have := o4.1.1; omega) (by omega)).mp e)
    obtain ⟨J, f13, c13, u13⟩ := put I10 _ 0 c10 (by omega)
    refine ⟨x, y, p, 0, _, by unfold cabP; rw [if_pos h24, s1]; simp only [q1, if_neg hxy, g1, if_neg k], h24, ?_, J, rdf_trans f13 (rdf_mv (rmv_trans f10 (rmv_trans f8 (rmv_trans f6 f2)))), c13, st1 _ ?_⟩
    · have a1 := o1.1.2.1; have a2 := o2.1.2.1; have a3 := o3.1.2.1
      have b1 := o1.2; have b2 := o2.2; have b3 := o3.2; have b4 := o4.2
      omega
    · refine r_Reader_readCable_45 hT _ _ (Nat.le_refl _) (Nat.le_refl _) ?_
      exact ⟨_, u8, _, _, u9, _, u10, bb_f' k' u13⟩
end KRD
