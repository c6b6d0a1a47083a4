/-! NET: the model reads a text -/
theorem cabP_prog {b : Nat → Nat} {Z S N : Nat} {t t' : Tk} {v : Nat × Nat × Nat × Nat} (h : tOk Z t) (e : cabP b Z t S N = .inr (v, t')) : t.2.2.1 ≤ t'.2.1 := by
  have o1 := nxt_ok (b := b) h
  have o2 := nxt_ok (b := b) o1.1
  have o3 := nxt_ok (b := b) o2.1
  have o4 := nxt_ok (b := b) o3.1
  have o5 := nxt_ok (b := b) o4.1
  have a1 := o1.1.2.1; have a2 := o2.1.2.1; have a3 := o3.1.2.1; have a4 := o4.1.2.1
  have b1 := o1.2; have b2 := o2.2; have b3 := o3.2; have b4 := o4.2; have b5 := o5.2
  unfold cabP at e
  repeat' split at e
  all_goals first
    | (cases e; done)
    | (simp only [Sum.inr.injEq, Prod.mk.injEq] at e
       obtain ⟨-, e⟩ := e
       rw [← e]; omega)
theorem brkP_prog {b : Nat → Nat} {Z N : Nat} {sd : Nat → Bool} {t t' : Tk} {v : Nat} (h : tOk Z t) (e : brkP b Z t N sd = .inr (v, t')) : t.2.2.1 ≤ t'.2.1 := by
  have o1 := nxt_ok (b := b) h
  have o2 := nxt_ok (b := b) o1.1
  have a1 := o1.1.2.1
  have b1 := o1.2; have b2 := o2.2
  unfold brkP at e
  repeat' split at e
  all_goals first
    | (cases e; done)
    | (simp only [Sum.inr.injEq, Prod.mk.injEq] at e
       obtain ⟨-, e⟩ := e
       rw [← e]; omega)
theorem stsP_prog {b : Nat → Nat} {Z : Nat} {first : Bool} {t t' : Tk} {v : Nat} (h : tOk Z t) (e : stsP b Z t first = .inr (v, t')) : t.2.2.1 ≤ t'.2.1 := by
  have o1 := nxt_ok (b := b) h
  have o2 := nxt_ok (b := b) o1.1
  have a1 := o1.1.2.1
  have b1 := o1.2; have b2 := o2.2
  unfold stsP at e
  repeat' split at e
  all_goals first
    | (cases e; done)
    | (simp only [Sum.inr.injEq, Prod.mk.injEq] at e
       obtain ⟨-, e⟩ := e
       rw [← e]; omega)
theorem isW_lt {b : Nat → Nat} {t : Tk} {j : Nat} (h : isW b t j = true) (hl : 0 < (wdS j).length) : t.2.1 < t.2.2.1 := by
  have := (of_decide_eq_true h).2.1
  omega
theorem Bz_end {J : Nat → Nat → Int32} : mnf J J := mnf_refl
section MTX
variable {w : ab_Wd} {d n nc ns : Nat} {I : Nat → Nat → Int32} {L : Nat → Nat → Int64}
variable {b : Nat → Nat} {Z : Nat} {t : Tk} {c : Cb}
theorem z_is (hT : w.1.stackTraces = false) (h : mT I b Z) (ht : tOk Z t) (hr : mAt I t) (h7 : I mx 15 = 0) {j : Nat} (hj : j < 8) : ab_P w (d + 4) mt_M_is [.ref mx, .ref (64 * j + 32)] I L n nc ns (if isW b t j = true then 1 else 0) := by
  have hZ := h.2.1
  obtain ⟨t1, t2, t3, t4⟩ := ht
  obtain ⟨r11, r13, r9, r14, r12⟩ := hr
  have ln := k_strLen (d := d + 2) (w := w) (n := n) (nc := nc) (ns := ns) (L := L) (I := I) hT hj
  have l7 := (wd_len j hj).2.2
  have out0 : ∀ v3 : Int32, ab_E w (d + 4) mt_M_is 39 [.ref mx, .ref (64 * j + 32), .int 0, .int v3] [] (I, L, ab_RR, n, nc, ns) (.inl (some (.int 0)), (I, L, ab_RR, n, nc, ns)) := fun v3 => by
    refine r_M_is_39 hT hj _ _ (Nat.le_refl _) (Nat.le_refl _) ?_
    exact bb_t rfl ⟨rfl, rfl⟩
  by_cases hk : t.1 = 1
  case neg =>
    have e : isW b t j = false := decide_eq_false (fun g => hk g.1)
    rw [e]
    refine ab_C_of (by decide) rfl (Nat.le_of_ble_eq_true rfl) hT ?_
    refine r_M_is_0 hT hj (Nat.le_refl _) (Nat.le_refl _) ?_
    exact bb_t' h7 (bb_f' (fun g => hk (by rw [r11] at g; exact (nI_eq (b := 1) (by omega) (by omega)).mp g)) (out0 0))
  have k4 : I mx 11 = 1 := by rw [r11, hk]; rfl
  have es : I mx 14 - I mx 13 = nI (t.2.2.1 - t.2.1) := by rw [r14, r13, nI_sub t2]
  by_cases hl : t.2.2.1 - t.2.1 = (wdS j).length
  case neg =>
    have e : isW b t j = false := decide_eq_false (fun g => hl g.2.1)
    rw [e]
    refine ab_C_of (by decide) rfl (Nat.le_of_ble_eq_true rfl) hT ?_
    refine r_M_is_0 hT hj (Nat.le_refl _) (Nat.le_refl _) ?_
    exact bb_t' h7 (bb_t' k4 ⟨_, ln, bb_f' (fun g => hl (by rw [es] at g; exact ((nI_eq (by omega) (by omega)).mp g).symm)) (out0 0)⟩)
  have loop : ∀ q i, i + q = (wdS j).length → (∀ k, k < i → b (t.2.1 + k) = (wdS j).getD k 0) → ab_E w (d + 4) mt_M_is 39 [.ref mx, .ref (64 * j + 32), .int 1, .int (nI i)] [] (I, L, ab_RR, n, nc, ns) (.inl (some (.int (if isW b t j = true then 1 else 0))), (I, L, ab_RR, n, nc, ns)) := by
    intro q
    induction q with
    | zero =>
      intro i hi hb
      have e : isW b t j = true := decide_eq_true ⟨hk, hl, fun k hk => hb k (by omega)⟩
      rw [e]
      refine r_M_is_39 hT hj _ _ (Nat.le_refl _) (Nat.le_refl _) ?_
      exact bb_f (by decide) ⟨_, ln, bb_t (nI_le (by omega) (by omega)) ⟨rfl, rfl⟩⟩
    | succ q ih =>
      intro i hi hb
      have ch := k_charAt (d := d) (w := w) (n := n) (nc := nc) (ns := ns) (L := L) (I := I) hT hj (i := i) (by omega)
      have c128 := (wd_at j hj i (by omega) (by omega)).2.2
      obtain ⟨y1, y2⟩ := h.2.2 (t.2.1 + i) (by omega)
      refine r_M_is_39 hT hj _ _ (Nat.le_refl _) (Nat.le_refl _) ?_
      refine bb_f (by decide) ⟨_, ln, bb_f (fun g => by have := (nI_leI (by omega) (by omega)).mp g; omega) ⟨_, ch, ?_⟩⟩
      rw [r13, nI_add, nI_clamp (by omega), y2, nI_1]
      refine ⟨vp_in_nI (by omega) (by omega), ?_⟩
      by_cases e : b (t.2.1 + i) = (wdS j).getD i 0
      · refine bb_t' (by rw [e]) (ih (i + 1) (by omega) (fun k hk => ?_))
        by_cases ek : k = i
        · rw [ek]; exact e
        · exact hb k (by omega)
      · have ew : isW b t j = false := decide_eq_false (fun g => e (g.2.2 i (by omega)))
        rw [ew]
        exact bb_f' (fun g => e ((nI_eq (by omega) (by omega)).mp g).symm) (out0 _)
  refine ab_C_of (by decide) rfl (Nat.le_of_ble_eq_true rfl) hT ?_
  refine r_M_is_0 hT hj (Nat.le_refl _) (Nat.le_refl _) ?_
  exact bb_t' h7 (bb_t' k4 ⟨_, ln, bb_t' (by rw [es, hl]) (loop (wdS j).length 0 (by omega) (fun k hk => absurd hk (Nat.not_lt_zero k)))⟩)
def whW (b : Nat → Nat) (t : Tk) : Int32 := if isW b t 0 = true then 0 else if isW b t 1 = true then 1 else if isW b t 2 = true then 2 else -1
theorem z_which (hT : w.1.stackTraces = false) (h : mT I b Z) (ht : tOk Z t) (hr : mAt I t) (h7 : I mx 15 = 0) : ab_P w (d + 5) mt_M_which [.ref mx] I L n nc ns (whW b t) := by
  have w0 := z_is (j := 0) (d := d) (w := w) (n := n) (nc := nc) (ns := ns) (L := L) hT h ht hr h7 (by omega)
  have w1 := z_is (j := 1) (d := d) (w := w) (n := n) (nc := nc) (ns := ns) (L := L) hT h ht hr h7 (by omega)
  have w2 := z_is (j := 2) (d := d) (w := w) (n := n) (nc := nc) (ns := ns) (L := L) hT h ht hr h7 (by omega)
  unfold whW
  refine ab_C_of (by decide) rfl (Nat.le_of_ble_eq_true rfl) hT ?_
  refine r_M_which_0 hT (Nat.le_refl _) (Nat.le_refl _) ?_
  refine r_M_which_2 hT _ (Nat.le_refl _) (Nat.le_refl _) ?_
  refine bb_f (by decide) ⟨vp_in_nI (n := 0) (by omega) (by omega), 0, ⟨by omega, by decide +kernel⟩, _, w0, ?_⟩
  by_cases h1 : isW b t 0 = true
  · rw [if_pos h1, if_pos h1]; exact bb_f (by decide) rfl
  rw [if_neg h1, if_neg h1]
  refine bb_t rfl ?_
  refine r_M_which_2 hT _ (Nat.le_refl _) (Nat.le_refl _) ?_
  refine bb_f (by decide) ⟨by rw [show (0 + 1 : Int32) = nI 1 from by decide]; exact vp_in_nI (by omega) (by omega), 1, ⟨by omega, by decide +kernel⟩, _, w1, ?_⟩
  by_cases h2 : isW b t 1 = true
  · rw [if_pos h2, if_pos h2]; exact bb_f (by decide) rfl
  rw [if_neg h2, if_neg h2]
  refine bb_t rfl ?_
  refine r_M_which_2 hT _ (Nat.le_refl _) (Nat.le_refl _) ?_
  refine bb_f (by decide) ⟨by rw [show (0 + 1 + 1 : Int32) = nI 2 from by decide]; exact vp_in_nI (by omega) (by omega), 2, ⟨by omega, by decide +kernel⟩, _, w2, ?_⟩
  by_cases h3 : isW b t 2 = true
  · rw [if_pos h3, if_pos h3]; exact bb_f (by decide) rfl
  rw [if_neg h3, if_neg h3]
  refine bb_t rfl ?_
  refine r_M_which_2 hT _ (Nat.le_refl _) (Nat.le_refl _) ?_
  exact bb_t (by decide) rfl
/-- as mnf, but for the clauses' number -/
def mng (J I : Nat → Nat → Int32) : Prop := (∀ c, c ≠ mx → c ≠ mx_reading → J c = I c) ∧ ∀ k, k ≠ 3 → k ≠ 9 → k ≠ 11 → k ≠ 12 → k ≠ 13 → k ≠ 14 → k ≠ 15 → k ≠ 16 → k ≠ 18 → J mx k = I mx k
theorem mng_of {J I : Nat → Nat → Int32} (h : mnf J I) : mng J I := ⟨h.1, fun k a b c d e f g h' _ => h.2 k a b c d e f g h'⟩
theorem mng_trans {K J I : Nat → Nat → Int32} (h : mng K J) (g : mng J I) : mng K I := ⟨fun c h1 h2 => (h.1 c h1 h2).trans (g.1 c h1 h2), fun k a b c d e f g' h' i => (h.2 k a b c d e f g' h' i).trans (g.2 k a b c d e f g' h' i)⟩
theorem mng_18 {J I : Nat → Nat → Int32} {x : Int32} (h : mng J I) : mng (ab_up J mx 18 x) I := ⟨fun c h1 h2 => by rw [ab_up_o h1]; exact h.1 c h1 h2, fun k a b c d e f g h' i => by rw [ab_up_i, pk_un i]; exact h.2 k a b c d e f g h' i⟩
theorem z_clause (hT : w.1.stackTraces = false) (h : mRt I b Z t c) {i : Nat} (hi : i < 1000) (h18 : I mx 18 = nI i) : (∃ cd a, clP b Z t (decide (i = 0)) c = .inl (cd, a) ∧ ∃ J, mng J I ∧ mF J cd a ∧ ab_U w (d + 6) mt_M_readClause [.ref mx] I L n nc ns J) ∨ (∃ t' c', clP b Z t (decide (i = 0)) c = .inr (t', c') ∧ t.2.1 < t'.2.1 ∧ (t'.1 ≠ 0 → t'.2.1 < t'.2.2.1) ∧ ∃ J, mng J I ∧ mRt J b Z t' c' ∧ J mx 18 = nI (i + 1) ∧ ab_U w (d + 6) mt_M_readClause [.ref mx] I L n nc ns J) := by
  have h7 := h.2.2.2.1
  have wh := z_which (d := d) (w := w) (n := n) (nc := nc) (ns := ns) (L := L) hT h.1 h.2.2.1 h.2.1 h7
  -- the ends
  have endB : ∀ (K : Nat → Nat → Int32) (v : Int32) cd a, mF K cd a → ∃ J, mng J K ∧ mF J cd a ∧ ab_E w ((d + 5) + 1) mt_M_readClause 78 [.ref mx, .int v] [] (K, L, ab_RR, n, nc, ns) (.inl none, (J, L, ab_RR, n, nc, ns)) := fun K v cd a hK => by
    refine ⟨ab_up K mx 18 ((K mx 18) + 1), mng_18 (mng_of mnf_refl), ⟨by rw [ab_up_i, pk_un (by decide)]; exact hK.1, by rw [ab_up_i, pk_un (by decide)]; exact hK.2.1, hK.2.2⟩, ?_⟩
    refine r_M_readClause_78 hT _ (Nat.le_refl _) (Nat.le_refl _) ?_
    refine bb_f' (mF_ne hK) ?_
    refine r_M_readClause_98 hT _ (Nat.le_refl _) (Nat.le_refl _) ?_
    refine bb_f' (mF_ne hK) ?_
    refine r_M_readClause_109 hT _ (Nat.le_refl _) (Nat.le_refl _) ?_
    rfl
  have fin : ∀ (K : Nat → Nat → Int32) (v : Int32) t1 c1, clB b Z t (decide (i = 0)) c = .inr (t1, c1) → t.2.1 < t1.2.1 → mRt K b Z t1 c1 → mnf K I → (∀ J, ab_E w ((d + 5) + 1) mt_M_readClause 78 [.ref mx, .int v] [] (K, L, ab_RR, n, nc, ns) (.inl none, (J, L, ab_RR, n, nc, ns)) → ab_U w (d + 6) mt_M_readClause [.ref mx] I L n nc ns J) → (∃ cd a, clP b Z t (decide (i = 0)) c = .inl (cd, a) ∧ ∃ J, mng J I ∧ mF J cd a ∧ ab_U w (d + 6) mt_M_readClause [.ref mx] I L n nc ns J) ∨ (∃ t' c', clP b Z t (decide (i = 0)) c = .inr (t', c') ∧ t.2.1 < t'.2.1 ∧ (t'.1 ≠ 0 → t'.2.1 < t'.2.2.1) ∧ ∃ J, mng J I ∧ mRt J b Z t' c' ∧ J mx 18 = nI (i + 1) ∧ ab_U w (d + 6) mt_M_readClause [.ref mx] I L n nc ns J) := by
    intro K v t1 c1 e lt hK fK st
    have k7 := hK.2.2.2.1
    have k3 : K mx 11 = 3 ↔ t1.1 = 3 := by rw [hK.2.1.1]; exact nI_eq (b := 3) (by have := hK.2.2.1.1; omega) (by omega)
    by_cases y3 : t1.1 = 3
    · right
      obtain ⟨J, f, r, u⟩ := Az_next (d := d + 4) (w := w) (n := n) (nc := nc) (ns := ns) (L := L) hT hK
      have o1 := nxt_ok (b := b) hK.2.2.1
      have pp := (tk_b (b := b) hK.2.2.1.2.2.1).2.2.2.2.1
      have j18 : J mx 18 = nI i := by
        rw [f.2 18 (by decide) (by decide) (by decide) (by decide) (by decide), fK.2 18 (by decide) (by decide) (by decide) (by decide) (by decide) (by decide) (by decide) (by decide)]; exact h18
      refine ⟨nxt b Z t1, c1, by unfold clP; rw [e]; simp only [if_pos y3], ?_, pp, ab_up J mx 18 (nI (i + 1)), mng_18 (mng_of (mnf_trans (mnf_mv f) fK)), ?_, by rw [ab_up_i, pk_us], st _ ?_⟩
      · have a1 := hK.2.2.1.2.1; have a2 := o1.2; omega
      · obtain ⟨k1, k2, k3, k4, kb⟩ := r
        refine ⟨⟨by rw [ab_up_i, pk_un (by decide)]; exact k1.1, k1.2.1, fun j hj => by rw [ab_up_o (by decide)]; exact k1.2.2 j hj⟩, ?_, k3, by rw [ab_up_i, pk_un (by decide)]; exact k4, mB_cong (by rw [ab_up_i, pk_un (by decide)]) (by rw [ab_up_o (by decide)]) kb⟩
        unfold mAt
        rw [ab_up_i, pk_un (by decide), pk_un (by decide), pk_un (by decide), pk_un (by decide), pk_un (by decide)]; exact k2
      · refine r_M_readClause_78 hT _ (Nat.le_refl _) (Nat.le_refl _) ?_
        refine bb_t' k7 (bb_t (k3.mpr y3) ?_)
        refine r_M_readClause_98 hT _ (Nat.le_refl _) (Nat.le_refl _) ?_
        refine bb_t' k7 ⟨_, u, ?_⟩
        refine r_M_readClause_109 hT _ (Nat.le_refl _) (Nat.le_refl _) ?_
        rw [j18, nI_1]
    · left
      have mf := mF_wrg (I := K) (c := 1) (a := t1.2.1) (by omega) (by omega)
      refine ⟨1, t1.2.1, by unfold clP; rw [e]; simp only [if_neg y3], ab_up (wrg K 1 t1.2.1) mx 18 (((wrg K 1 t1.2.1) mx 18) + 1), mng_18 (mng_of (mnf_trans mnf_wrg fK)), ⟨by rw [ab_up_i, pk_un (by decide)]; exact mf.1, by rw [ab_up_i, pk_un (by decide)]; exact mf.2.1, mf.2.2⟩, st _ ?_⟩
      refine r_M_readClause_78 hT _ (Nat.le_refl _) (Nat.le_refl _) ?_
      refine bb_t' k7 (bb_f (fun g => y3 (k3.mp g)) (bb_t k7 ?_))
      rw [hK.2.1.2.1]
      refine r_M_readClause_98 hT _ (Nat.le_refl _) (Nat.le_refl _) ?_
      refine bb_f' (mF_ne mf) ?_
      refine r_M_readClause_109 hT _ (Nat.le_refl _) (Nat.le_refl _) ?_
      rfl
  have failA : ∀ cd a, clB b Z t (decide (i = 0)) c = .inl (cd, a) → clP b Z t (decide (i = 0)) c = .inl (cd, a) := fun cd a e => by unfold clP; rw [e]
  by_cases h1 : isW b t 0 = true
  · have ew : whW b t = 0 := if_pos h1
    rw [ew] at wh
    have lt := isW_lt h1 (by decide)
    by_cases h0 : i = 0
    · have d0 : decide (i = 0) = true := decide_eq_true h0
      obtain ⟨I5, f5, r5, u5⟩ := Az_next (d := d + 4) (w := w) (n := n) (nc := nc) (ns := ns) (L := L) hT h
      have st : ∀ J r6 I7, ab_PU w (d + 5) mt_M_readNumber [.ref mx, .int 2, .int 10] I5 L n nc ns r6 I7 → ab_E w ((d + 5) + 1) mt_M_readClause 78 [.ref mx, .int 0] [] ((ab_up I7 mx 3 r6), L, ab_RR, n, nc, ns) (.inl none, (J, L, ab_RR, n, nc, ns)) → ab_U w (d + 6) mt_M_readClause [.ref mx] I L n nc ns J := fun J r6 I7 u6 u7 => by
        refine ab_C_of (by decide) rfl (Nat.le_of_ble_eq_true rfl) hT ?_
        refine r_M_readClause_0 hT (Nat.le_refl _) (Nat.le_refl _) ?_
        refine ⟨_, wh, bb_f' (by decide) ?_⟩
        refine r_M_readClause_15 hT _ (Nat.le_refl _) (Nat.le_refl _) ?_
        refine bb_t' rfl (bb_t (by rw [h18, h0]; decide) ?_)
        refine r_M_readClause_31 hT _ (Nat.le_refl _) (Nat.le_refl _) ?_
        exact bb_t h7 (bb_f' (by decide) (bb_f' (by decide) ⟨_, u5, _, _, u6, u7⟩))
      rcases z_readNum (d := d + 3) (w := w) (n := n) (nc := nc) (ns := ns) (L := L) hT r5 (lo := 2) (hi := 10) (by omega) (by omega) with ⟨cd, g1, g2, g3, u6⟩ | ⟨S', g1, g2, g3, I7, f7, r7, u6⟩
      · left
        have mf := mF_wrg (I := I5) (c := cd) (a := (nxt b Z t).2.1) g2 (by omega)
        have mf' : mF (ab_up (wrg I5 cd (nxt b Z t).2.1) mx 3 (nI 2)) cd (nxt b Z t).2.1 := ⟨by rw [ab_up_i, pk_un (by decide)]; exact mf.1, by rw [ab_up_i, pk_un (by decide)]; exact mf.2.1, mf.2.2⟩
        obtain ⟨J, f8, c8, u8⟩ := endB _ 0 _ _ mf'
        refine ⟨cd, _, failA _ _ (by unfold clB stsP; rw [if_pos h1, if_pos d0, g1]), J, mng_trans f8 ⟨fun c h1 h2 => by rw [ab_up_o h1]; exact (mnf_trans mnf_wrg (mnf_mv f5)).1 c h1 h2, fun k k1 k2 k3 k4 k5 k6 k7 k8 _ => by rw [ab_up_i, pk_un k1]; exact (mnf_trans mnf_wrg (mnf_mv f5)).2 k k1 k2 k3 k4 k5 k6 k7 k8⟩, c8, st J _ _ u6 u8⟩
      · have rr : mRt (ab_up I7 mx 3 (nI S')) b Z (nxt b Z (nxt b Z t)) (S', c.2) := by
          obtain ⟨k1, k2, k3, k4, ⟨b0, b1, b2, b3, b4, b5, b6, b7⟩⟩ := r7
          refine ⟨⟨by rw [ab_up_i, pk_un (by decide)]; exact k1.1, k1.2.1, fun j hj => by rw [ab_up_o (by decide)]; exact k1.2.2 j hj⟩, ?_, k3, by rw [ab_up_i, pk_un (by decide)]; exact k4, Or.inr (by rw [ab_up_i, pk_us]), by rw [ab_up_o (by decide)]; exact b1, g2, g3, b4, fun k hk => by rw [ab_up_o (by decide)]; exact b5 k hk, by rw [ab_up_o (by decide)]; exact b6, fun k hk => by rw [ab_up_o (by decide)]; exact b7 k hk⟩
          unfold mAt
          rw [ab_up_i, pk_un (by decide), pk_un (by decide), pk_un (by decide), pk_un (by decide), pk_un (by decide)]; exact k2
        have ec : stsP b Z t (decide (i = 0)) = .inr (S', nxt b Z (nxt b Z t)) := by unfold stsP; rw [if_pos d0, g1]
        have pg := stsP_prog h.2.2.1 ec
        exact fin _ 0 _ _ (by unfold clB; rw [if_pos h1, ec]) (by omega) rr ⟨fun c h1 h2 => by rw [ab_up_o h1, f7.1 c h1, f5.1 c h1], fun k k1 k2 k3 k4 k5 k6 k7 k8 => by rw [ab_up_i, pk_un k1, f7.2 k k2 k3 k4 k5 k6, f5.2 k k2 k3 k4 k5 k6]⟩ (fun J u8 => st J _ _ u6 u8)
    · left
      have d0 : ¬ decide (i = 0) = true := fun g => h0 (of_decide_eq_true g)
      have mf := mF_wrg (I := I) (c := 4) (a := t.2.1) (by omega) (by omega)
      refine ⟨4, t.2.1, failA _ _ (by unfold clB stsP; rw [if_pos h1, if_neg d0]), wrg I 4 t.2.1, mng_of mnf_wrg, mf, ?_⟩
      refine ab_C_of (by decide) rfl (Nat.le_of_ble_eq_true rfl) hT ?_
      refine r_M_readClause_0 hT (Nat.le_refl _) (Nat.le_refl _) ?_
      refine ⟨_, wh, bb_f' (by decide) ?_⟩
      refine r_M_readClause_15 hT _ (Nat.le_refl _) (Nat.le_refl _) ?_
      refine bb_t' rfl (bb_f (fun g => h0 ?_) (bb_t h7 ?_))
      · rw [h18] at g
        have := (nI_leI (b := 0) (by omega) (by omega)).mp g
        omega
      · rw [h.2.1.2.1]
        refine r_M_readClause_31 hT _ (Nat.le_refl _) (Nat.le_refl _) ?_
        exact bb_f (mF_ne mf) rfl
  by_cases h2 : isW b t 1 = true
  · have ew : whW b t = 1 := (if_neg h1).trans (if_pos h2)
    rw [ew] at wh
    have lt := isW_lt h2 (by decide)
    have st : ∀ J I11, ab_U w (d + 5) mt_M_readCable [.ref mx] I L n nc ns I11 → ab_E w ((d + 5) + 1) mt_M_readClause 78 [.ref mx, .int 1] [] (I11, L, ab_RR, n, nc, ns) (.inl none, (J, L, ab_RR, n, nc, ns)) → ab_U w (d + 6) mt_M_readClause [.ref mx] I L n nc ns J := fun J I11 u6 u7 => by
      refine ab_C_of (by decide) rfl (Nat.le_of_ble_eq_true rfl) hT ?_
      refine r_M_readClause_0 hT (Nat.le_refl _) (Nat.le_refl _) ?_
      refine ⟨_, wh, bb_f' (by decide) ?_⟩
      refine r_M_readClause_15 hT _ (Nat.le_refl _) (Nat.le_refl _) ?_
      refine bb_f' (by decide) ?_
      refine r_M_readClause_31 hT _ (Nat.le_refl _) (Nat.le_refl _) ?_
      exact bb_t h7 (bb_t' rfl ⟨_, u6, u7⟩)
    rcases z_readCable (d := d + 2) (w := w) (n := n) (nc := nc) (ns := ns) (L := L) hT h with ⟨cd, a, s1, J1, f1, r1, u1⟩ | ⟨x, y, p, f, t', s1, J1, f1, r1, u1⟩
    · left
      obtain ⟨J, f8, c8, u8⟩ := endB J1 1 _ _ r1
      exact ⟨cd, a, failA _ _ (by unfold clB; rw [if_neg h1, if_pos h2, s1]), J, mng_trans f8 (mng_of f1), c8, st J _ u1 u8⟩
    · have pg := cabP_prog h.2.2.1 s1
      exact fin J1 1 t' (c.1, c.2.1 + 1, un c.2.2.1 c.2.1 true, un c.2.2.2.1 c.2.1 x, un c.2.2.2.2.1 c.2.1 y, un c.2.2.2.2.2.1 c.2.1 p, un c.2.2.2.2.2.2 c.2.1 f) (by unfold clB; rw [if_neg h1, if_pos h2, s1]) (by omega) r1 f1 (fun J u8 => st J _ u1 u8)
  by_cases h3 : isW b t 2 = true
  · have ew : whW b t = 2 := (if_neg h1).trans ((if_neg h2).trans (if_pos h3))
    rw [ew] at wh
    have lt := isW_lt h3 (by decide)
    have st : ∀ J I11, ab_U w (d + 5) mt_M_readBroken [.ref mx] I L n nc ns I11 → ab_E w ((d + 5) + 1) mt_M_readClause 78 [.ref mx, .int 2] [] (I11, L, ab_RR, n, nc, ns) (.inl none, (J, L, ab_RR, n, nc, ns)) → ab_U w (d + 6) mt_M_readClause [.ref mx] I L n nc ns J := fun J I11 u6 u7 => by
      refine ab_C_of (by decide) rfl (Nat.le_of_ble_eq_true rfl) hT ?_
      refine r_M_readClause_0 hT (Nat.le_refl _) (Nat.le_refl _) ?_
      refine ⟨_, wh, bb_f' (by decide) ?_⟩
      refine r_M_readClause_15 hT _ (Nat.le_refl _) (Nat.le_refl _) ?_
      refine bb_f' (by decide) ?_
      refine r_M_readClause_31 hT _ (Nat.le_refl _) (Nat.le_refl _) ?_
      exact bb_t h7 (bb_f' (by decide) (bb_t' rfl ⟨_, u6, u7⟩))
    rcases z_readBroken (d := d + 2) (w := w) (n := n) (nc := nc) (ns := ns) (L := L) hT h with ⟨cd, a, s1, J1, f1, r1, u1⟩ | ⟨k, t', s1, J1, f1, r1, u1⟩
    · left
      obtain ⟨J, f8, c8, u8⟩ := endB J1 2 _ _ r1
      exact ⟨cd, a, failA _ _ (by unfold clB; rw [if_neg h1, if_neg h2, if_pos h3, s1]), J, mng_trans f8 (mng_of f1), c8, st J _ u1 u8⟩
    · have pg := brkP_prog h.2.2.1 s1
      exact fin J1 2 t' (c.1, c.2.1, (fun j => if j = k then false else c.2.2.1 j), c.2.2.2) (by unfold clB; rw [if_neg h1, if_neg h2, if_pos h3, s1]) (by omega) r1 f1 (fun J u8 => st J _ u1 u8)
  left
  have ew : whW b t = -1 := (if_neg h1).trans ((if_neg h2).trans (if_neg h3))
  rw [ew] at wh
  have mf := mF_wrg (I := I) (c := 1) (a := t.2.1) (by omega) (by omega)
  refine ⟨1, t.2.1, failA _ _ (by unfold clB; rw [if_neg h1, if_neg h2, if_neg h3]), wrg I 1 t.2.1, mng_of mnf_wrg, mf, ?_⟩
  refine ab_C_of (by decide) rfl (Nat.le_of_ble_eq_true rfl) hT ?_
  refine r_M_readClause_0 hT (Nat.le_refl _) (Nat.le_refl _) ?_
  refine ⟨_, wh, bb_t' rfl (bb_t h7 ?_)⟩
  rw [h.2.1.2.1]
  refine r_M_readClause_15 hT _ (Nat.le_refl _) (Nat.le_refl _) ?_
  refine bb_f' (by decide) ?_
  refine r_M_readClause_31 hT _ (Nat.le_refl _) (Nat.le_refl _) ?_
  exact bb_f (mF_ne mf) rfl
end MTX
