/-! NET: the class reads all clauses -/
def isW (b : Nat → Nat) (t : Tk) (j : Nat) : Bool := decide (t.1 = 1 ∧ t.2.2.1 - t.2.1 = (wdS j).length ∧ ∀ i, i < (wdS j).length → b (t.2.1 + i) = (wdS j).getD i 0)
abbrev Cb : Type := Nat × Nat × (Nat → Bool) × (Nat → Nat) × (Nat → Nat) × (Nat → Nat) × (Nat → Nat)
def clB (b : Nat → Nat) (Z : Nat) (t : Tk) (first : Bool) (c : Cb) : Sum (Nat × Nat) (Tk × Cb) :=
  if isW b t 0 = true then
    match stsP b Z t first with
    | .inl f => .inl f
    | .inr s => .inr (s.2, (s.1, c.2))
  else if isW b t 1 = true then
    match cabP b Z t c.1 c.2.1 with
    | .inl f => .inl f
    | .inr s => .inr (s.2, (c.1, c.2.1 + 1, un c.2.2.1 c.2.1 true, un c.2.2.2.1 c.2.1 s.1.1, un c.2.2.2.2.1 c.2.1 s.1.2.1, un c.2.2.2.2.2.1 c.2.1 s.1.2.2.1, un c.2.2.2.2.2.2 c.2.1 s.1.2.2.2))
  else if isW b t 2 = true then
    match brkP b Z t c.2.1 c.2.2.1 with
    | .inl f => .inl f
    | .inr s => .inr (s.2, (c.1, c.2.1, (fun j => if j = s.1 then false else c.2.2.1 j), c.2.2.2))
  else .inl (1, t.2.1)
def clP (b : Nat → Nat) (Z : Nat) (t : Tk) (first : Bool) (c : Cb) : Sum (Nat × Nat) (Tk × Cb) :=
  match clB b Z t first c with
  | .inl f => .inl f
  | .inr s => if s.1.1 = 3 then .inr (nxt b Z s.1, s.2) else .inl (1, s.1.2.1)
def rdP (b : Nat → Nat) (Z : Nat) : Nat → Nat → Tk → Cb → Sum (Nat × Nat) Cb
  | 0, _, _, c => .inr c
  | f + 1, i, t, c => if t.1 = 0 then .inr c else
    match clP b Z t (decide (i = 0)) c with
    | .inl e => .inl e
    | .inr s => rdP b Z f (i + 1) s.1 s.2
def cBt (I : Nat → Nat → Int32) (c : Cb) : Prop := cB I c.1 c.2.1 c.2.2.1 c.2.2.2.1 c.2.2.2.2.1 c.2.2.2.2.2.1 c.2.2.2.2.2.2
def cRt (I : Nat → Nat → Int32) (b : Nat → Nat) (Z : Nat) (t : Tk) (c : Cb) : Prop := cR I b Z t c.1 c.2.1 c.2.2.1 c.2.2.2.1 c.2.2.2.2.1 c.2.2.2.2.2.1 c.2.2.2.2.2.2
theorem sb_chr {x c : Nat} (hx : x < 256) (hc : c < 128) : sb x = nI c ↔ x = c := by
  by_cases h : x < 128
  · rw [show sb x = nI x from if_pos h]
    exact nI_eq (by omega) (by omega)
  · constructor
    · intro e
      have : ∀ x, x < 256 → ¬ x < 128 → sb x < 0 := by decide +kernel
      have := this x hx h
      rw [e] at this
      exact absurd this (nI_pos (by omega))
    · intro e; omega
section KCL
variable {w : ab_Wd} {d n nc ns : Nat} {I : Nat → Nat → Int32} {L : Nat → Nat → Int64}
variable {b : Nat → Nat} {Z : Nat} {t : Tk} {S N : Nat} {sd : Nat → Bool} {e1 e2 pr fm : Nat → Nat}
theorem k_isWord (hT : w.1.stackTraces = false) (h : cT I b Z) (ht : tOk Z t) (hr : rAt I t) {j : Nat} (hj : j < 8) : ab_P w (d + 4) mt_Reader_isWord [.ref kx_reader, .ref (64 * j + 32)] I L n nc ns (if isW b t j = true then 1 else 0) := by
  have hZ := h.2.1
  obtain ⟨t1, t2, t3, t4⟩ := ht
  obtain ⟨r4, r5, r3, r6⟩ := hr
  have ln := k_strLen (d := d + 2) (w := w) (n := n) (nc := nc) (ns := ns) (L := L) (I := I) hT hj
  have l7 := (wd_len j hj).2.2
  by_cases hk : t.1 = 1
  case neg =>
    have e : isW b t j = false := decide_eq_false (fun g => hk g.1)
    rw [e]
    refine ab_C_of (by decide) rfl (Nat.le_of_ble_eq_true rfl) hT ?_
    refine r_Reader_isWord_0 hT hj (Nat.le_refl _) (Nat.le_refl _) ?_
    exact bb_f' (fun g => hk (by rw [r4] at g; exact (nI_eq (b := 1) (by omega) (by omega)).mp g)) rfl
  have k4 : I kx_reader 4 = 1 := by rw [r4, hk]; rfl
  have es : I kx_reader 3 - I kx_reader 5 = nI (t.2.2.1 - t.2.1) := by rw [r3, r5, nI_sub t2]
  by_cases hl : t.2.2.1 - t.2.1 = (wdS j).length
  case neg =>
    have e : isW b t j = false := decide_eq_false (fun g => hl g.2.1)
    rw [e]
    refine ab_C_of (by decide) rfl (Nat.le_of_ble_eq_true rfl) hT ?_
    refine r_Reader_isWord_0 hT hj (Nat.le_refl _) (Nat.le_refl _) ?_
    exact bb_t' k4 ⟨_, ln, bb_f (fun g => hl (by rw [es] at g; exact (nI_eq (by omega) (by omega)).mp g)) rfl⟩
  have loop : ∀ q i, i + q = (wdS j).length → (∀ k, k < i → b (t.2.1 + k) = (wdS j).getD k 0) → ab_E w (d + 4) mt_Reader_isWord 28 [.ref kx_reader, .ref (64 * j + 32), .int (nI i)] [] (I, L, ab_RR, n, nc, ns) (.inl (some (.int (if isW b t j = true then 1 else 0))), (I, L, ab_RR, n, nc, ns)) := by
    intro q
    induction q with
    | zero =>
      intro i hi hb
      have e : isW b t j = true := decide_eq_true ⟨hk, hl, fun k hk => hb k (by omega)⟩
      rw [e]
      refine r_Reader_isWord_28 hT hj _ (Nat.le_refl _) (Nat.le_refl _) ?_
      exact ⟨_, ln, bb_t (nI_le (by omega) (by omega)) rfl⟩
    | succ q ih =>
      intro i hi hb
      have ch := k_charAt (d := d) (w := w) (n := n) (nc := nc) (ns := ns) (L := L) (I := I) hT hj (i := i) (by omega)
      have c128 := (wd_at j hj i (by omega) (by omega)).2.2
      obtain ⟨y1, y2⟩ := h.2.2 (t.2.1 + i) (by omega)
      refine r_Reader_isWord_28 hT hj _ (Nat.le_refl _) (Nat.le_refl _) ?_
      refine ⟨_, ln, bb_f (fun g => by have := (nI_leI (by omega) (by omega)).mp g; omega) ?_⟩
      rw [r5, nI_add, nI_clamp (by omega), y2, nI_1]
      refine ⟨vp_in_nI (by omega) (by omega), _, ch, ?_⟩
      by_cases e : b (t.2.1 + i) = (wdS j).getD i 0
      · refine bb_t ((sb_chr y1 c128).mpr e) (ih (i + 1) (by omega) (fun k hk => ?_))
        by_cases ek : k = i
        · rw [ek]; exact e
        · exact hb k (by omega)
      · have ew : isW b t j = false := decide_eq_false (fun g => e (g.2.2 i (by omega)))
        rw [ew]
        exact bb_f (fun g => e ((sb_chr y1 c128).mp g)) rfl
  refine ab_C_of (by decide) rfl (Nat.le_of_ble_eq_true rfl) hT ?_
  refine r_Reader_isWord_0 hT hj (Nat.le_refl _) (Nat.le_refl _) ?_
  exact bb_t' k4 ⟨_, ln, bb_t (by rw [es, hl]) (loop (wdS j).length 0 (by omega) (fun k hk => absurd hk (Nat.not_lt_zero k)))⟩
theorem k_readSites (hT : w.1.stackTraces = false) (h : cR I b Z t S N sd e1 e2 pr fm) {first : Bool} (h0 : first = true → N = 0) : (∃ c a, stsP b Z t first = .inl (c, a) ∧ ∃ J, rno J I ∧ cF J b Z c a ∧ ab_U w (d + 3) mt_Reader_readSites [.ref kx_reader, .int (if first = true then 1 else 0)] I L n nc ns J) ∨ (∃ S' t', stsP b Z t first = .inr (S', t') ∧ t.2.2.1 ≤ t'.2.1 ∧ ∃ J, rdf J I ∧ cR J b Z t' S' N sd e1 e2 pr fm ∧ ab_U w (d + 3) mt_Reader_readSites [.ref kx_reader, .int (if first = true then 1 else 0)] I L n nc ns J) := by
  have hZ := h.1.2.1
  by_cases hf : first = true
  case neg =>
    left
    have cf := cR_F h (c := 4) (a := t.2.1) (by omega) (by omega)
    obtain ⟨I2, f2, c2, u2⟩ := B_next (d := d) (w := w) (n := n) (nc := nc) (ns := ns) (L := L) hT cf
    obtain ⟨r, u3⟩ := B_num (d := d + 1) (w := w) (n := n) (nc := nc) (ns := ns) (L := L) hT (cF_ne c2) 2 10
    obtain ⟨J, f4, c4, u4⟩ := B_next (d := d) (w := w) (n := n) (nc := nc) (ns := ns) (L := L) hT c2
    refine ⟨4, t.2.1, by unfold stsP; rw [if_neg hf], J, rno_trans (rno_mv (rmv_trans f4 f2)) rno_flt, c4, ?_⟩
    rw [if_neg hf]
    refine ab_C_of (by decide) rfl (Nat.le_of_ble_eq_true rfl) hT ?_
    refine r_Reader_readSites_0 hT _ (Nat.le_refl _) (Nat.le_refl _) ?_
    refine bb_t' rfl (bb_t h.2.2.2.1 ?_)
    rw [h.2.1.2.1]
    exact ⟨_, u2, _, _, u3, bb_f' (cF_ne c2) ⟨_, u4, rfl⟩⟩
  obtain ⟨I2, f2, c2, u2⟩ := A_next (d := d) (w := w) (n := n) (nc := nc) (ns := ns) (L := L) hT h
  have o1 := nxt_ok (b := b) h.2.2.1
  have o2 := nxt_ok (b := b) o1.1
  rcases k_num (d := d + 1) (w := w) (n := n) (nc := nc) (ns := ns) (L := L) hT hZ c2.2.2.1 c2.2.1 c2.2.2.2.1 (lo := 2) (hi := 10) (by omega) (by omega) with ⟨c, g1, g2, g3, u9⟩ | ⟨p, g1, g2, g3, u9⟩
  · left
    have cf := cR_F c2 (c := c) (a := (nxt b Z t).2.1) g2 (by omega)
    obtain ⟨J, f4, c4, u4⟩ := B_next (d := d) (w := w) (n := n) (nc := nc) (ns := ns) (L := L) hT cf
    refine ⟨c, _, by unfold stsP; rw [if_pos hf, g1], J, rno_trans (rno_mv f4) (rno_trans rno_flt (rno_mv f2)), c4, ?_⟩
    rw [if_pos hf]
    refine ab_C_of (by decide) rfl (Nat.le_of_ble_eq_true rfl) hT ?_
    refine r_Reader_readSites_0 hT _ (Nat.le_refl _) (Nat.le_refl _) ?_
    exact bb_f' (by decide) ⟨_, u2, _, _, u9, bb_f' (cF_ne cf) ⟨_, u4, rfl⟩⟩
  · right
    have hN := h0 hf
    subst hN
    have cr : cR (ab_up I2 kx_trial 0 (nI p)) b Z (nxt b Z t) p 0 sd e1 e2 pr fm := by
      obtain ⟨k1, k2, k3, k4, k5, ⟨b0, b1, b2, b3, b4, b5, b6, b7⟩⟩ := c2
      have jr : (ab_up I2 kx_trial 0 (nI p)) kx_reader = I2 kx_reader := ab_up_o (by decide)
      refine ⟨⟨by rw [jr]; exact k1.1, k1.2.1, fun j hj => by rw [ab_up_o (by decide)]; exact k1.2.2 j hj⟩, by unfold rAt; rw [jr]; exact k2, k3, by rw [jr]; exact k4, by rw [jr]; exact k5, by rw [ab_up_i, pk_us], by rw [ab_up_i, pk_un (by decide)]; exact b1, g2, g3, by omega, fun k hk => by rw [ab_up_i, pk_un (by decide)]; exact b5 k hk, b6, fun k hk => absurd hk (Nat.not_lt_zero k)⟩
    obtain ⟨J, f4, c4, u4⟩ := A_next (d := d) (w := w) (n := n) (nc := nc) (ns := ns) (L := L) hT cr
    refine ⟨p, _, by unfold stsP; rw [if_pos hf, g1], ?_, J, rdf_trans (rdf_mv f4) (rdf_up (rdf_mv f2) (by unfold rdc; decide)), c4, ?_⟩
    · have a1 := o1.1.2.1
      have b1 := o1.2; have b2 := o2.2
      omega
    · rw [if_pos hf]
      refine ab_C_of (by decide) rfl (Nat.le_of_ble_eq_true rfl) hT ?_
      refine r_Reader_readSites_0 hT _ (Nat.le_refl _) (Nat.le_refl _) ?_
      exact bb_f' (by decide) ⟨_, u2, _, _, u9, bb_t' c2.2.2.2.1 ⟨_, u4, rfl⟩⟩
theorem k_readBroken (hT : w.1.stackTraces = false) (h : cR I b Z t S N sd e1 e2 pr fm) : (∃ c a, brkP b Z t N sd = .inl (c, a) ∧ ∃ J, rno J I ∧ cF J b Z c a ∧ ab_U w (d + 3) mt_Reader_readBroken [.ref kx_reader] I L n nc ns J) ∨ (∃ k t', brkP b Z t N sd = .inr (k, t') ∧ t.2.2.1 ≤ t'.2.1 ∧ ∃ J, rdf J I ∧ cR J b Z t' S N (fun j => if j = k then false else sd j) e1 e2 pr fm ∧ ab_U w (d + 3) mt_Reader_readBroken [.ref kx_reader] I L n nc ns J) := by
  have hZ := h.1.2.1
  obtain ⟨I2, f2, c2, u2⟩ := A_next (d := d) (w := w) (n := n) (nc := nc) (ns := ns) (L := L) hT h
  have o1 := nxt_ok (b := b) h.2.2.1
  have o2 := nxt_ok (b := b) o1.1
  have hN4 := h.2.2.2.2.2.2.2.2.2.1
  rcases k_num (d := d + 1) (w := w) (n := n) (nc := nc) (ns := ns) (L := L) hT hZ c2.2.2.1 c2.2.1 c2.2.2.2.1 (lo := 0) (hi := 23) (by omega) (by omega) with ⟨c, g1, g2, g3, u9⟩ | ⟨k, g1, g2, g3, u9⟩
  · left
    have cf := cR_F c2 (c := c) (a := (nxt b Z t).2.1) g2 (by omega)
    obtain ⟨J, f4, c4, u4⟩ := B_next (d := d) (w := w) (n := n) (nc := nc) (ns := ns) (L := L) hT cf
    refine ⟨c, _, by unfold brkP; rw [g1], J, rno_trans (rno_mv f4) (rno_trans rno_flt (rno_mv f2)), c4, ?_⟩
    refine ab_C_of (by decide) rfl (Nat.le_of_ble_eq_true rfl) hT ?_
    refine r_Reader_readBroken_0 hT (Nat.le_refl _) (Nat.le_refl _) ?_
    refine ⟨_, u2, _, _, u9, ?_⟩
    have ne := cF_ne cf
    by_cases q1 : nI 0 < (flt I2 c (nxt b Z t).2.1) kx_trial 1
    · refine bb_t q1 ?_
      by_cases q2 : (((flt I2 c (nxt b Z t).2.1) kx_trial 2 >>> (nI 0 &&& 31)) &&& 1) = 1
      · exact bb_t q2 (bb_f' ne ⟨_, u4, rfl⟩)
      · exact bb_f q2 (bb_f ne (bb_f' ne ⟨_, u4, rfl⟩))
    · exact bb_f q1 (bb_f ne (bb_f' ne ⟨_, u4, rfl⟩))
  obtain ⟨k1, k2, k3, k4, k5, ⟨b0, b1, b2, b3, b4, b5, b6, b7⟩⟩ := id c2
  have i1 := b1
  have r7 := k4
  by_cases hkN : k < N
  case neg =>
    left
    have cf := cR_F c2 (c := 3) (a := (nxt b Z t).2.1) (by omega) (by omega)
    obtain ⟨J, f4, c4, u4⟩ := B_next (d := d) (w := w) (n := n) (nc := nc) (ns := ns) (L := L) hT cf
    refine ⟨3, _, by unfold brkP; rw [g1]; simp only [if_neg hkN], J, rno_trans (rno_mv f4) (rno_trans rno_flt (rno_mv f2)), c4, ?_⟩
    refine ab_C_of (by decide) rfl (Nat.le_of_ble_eq_true rfl) hT ?_
    refine r_Reader_readBroken_0 hT (Nat.le_refl _) (Nat.le_refl _) ?_
    refine ⟨_, u2, _, _, u9, bb_f (fun g => hkN (by rw [i1] at g; exact (nI_ltI (by omega) (by omega)).mp g)) (bb_t r7 ?_)⟩
    rw [c2.2.1.2.1]
    exact ⟨_, u4, rfl⟩
  have lt : nI k < I2 kx_trial 1 := by rw [i1]; exact (nI_ltI (by omega) (by omega)).mpr hkN
  have bk := b5 k (by omega)
  by_cases hsd : sd k = true
  case neg =>
    left
    have cf := cR_F c2 (c := 4) (a := (nxt b Z t).2.1) (by omega) (by omega)
    obtain ⟨J, f4, c4, u4⟩ := B_next (d := d) (w := w) (n := n) (nc := nc) (ns := ns) (L := L) hT cf
    refine ⟨4, _, by unfold brkP; rw [g1]; simp only [if_pos hkN, if_neg hsd], J, rno_trans (rno_mv f4) (rno_trans rno_flt (rno_mv f2)), c4, ?_⟩
    refine ab_C_of (by decide) rfl (Nat.le_of_ble_eq_true rfl) hT ?_
    refine r_Reader_readBroken_0 hT (Nat.le_refl _) (Nat.le_refl _) ?_
    refine ⟨_, u2, _, _, u9, bb_t lt (bb_f (fun g => hsd (by rw [nl_bit _ (show k < 32 by omega), bk] at g; exact g)) (bb_t r7 ?_))⟩
    rw [c2.2.1.2.1]
    exact ⟨_, u4, rfl⟩
  right
  have cr : cR (ab_up I2 kx_trial 2 ((I2 kx_trial 2) &&& (((1 : Int32) <<< (nI k &&& 31)) ^^^ (-1)))) b Z (nxt b Z t) S N (fun j => if j = k then false else sd j) e1 e2 pr fm := by
    have jr : (ab_up I2 kx_trial 2 ((I2 kx_trial 2) &&& (((1 : Int32) <<< (nI k &&& 31)) ^^^ (-1)))) kx_reader = I2 kx_reader := ab_up_o (by decide)
    refine ⟨⟨by rw [jr]; exact k1.1, k1.2.1, fun j hj => by rw [ab_up_o (by decide)]; exact k1.2.2 j hj⟩, by unfold rAt; rw [jr]; exact k2, k3, by rw [jr]; exact k4, by rw [jr]; exact k5, by rw [ab_up_i, pk_un (by decide)]; exact b0, by rw [ab_up_i, pk_un (by decide)]; exact b1, b2, b3, b4, fun j hj => ?_, fun j hj => ?_, fun j hj => ?_⟩
    · show _ = if j = k then false else sd j
      rw [ab_up_i, pk_us, b_and, b5 j hj, ab_bnot _ hj, ab_sh1 (by omega) hj]
      by_cases e : j = k
      · rw [if_pos e, decide_eq_true e]; cases sd j <;> rfl
      · rw [if_neg e, decide_eq_false e]; cases sd j <;> rfl
    · have hj : (if j = k then false else sd j) = true := hj
      by_cases e : j = k
      · rw [if_pos e] at hj; cases hj
      · rw [if_neg e] at hj; exact b6 j hj
    · rw [ab_up_o (by decide), ab_up_o (by decide), ab_up_o (by decide), ab_up_o (by decide)]; exact b7 j hj
  obtain ⟨J, f4, c4, u4⟩ := A_next (d := d) (w := w) (n := n) (nc := nc) (ns := ns) (L := L) hT cr
  refine ⟨k, _, by unfold brkP; rw [g1]; simp only [if_pos hkN, if_pos hsd], ?_, J, rdf_trans (rdf_mv f4) (rdf_up (rdf_mv f2) (by unfold rdc; decide)), c4, ?_⟩
  · have a1 := o1.1.2.1
    have b1 := o1.2; have b2 := o2.2
    omega
  · refine ab_C_of (by decide) rfl (Nat.le_of_ble_eq_true rfl) hT ?_
    refine r_Reader_readBroken_0 hT (Nat.le_refl _) (Nat.le_refl _) ?_
    exact ⟨_, u2, _, _, u9, bb_t lt (bb_t ((nl_bit _ (show k < 32 by omega)).mpr (by rw [bk]; exact hsd)) (bb_t' r7 ⟨_, u4, rfl⟩))⟩
end KCL
