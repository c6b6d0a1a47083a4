/-! NET: the model reads clauses -/
def wrg (I : Nat → Nat → Int32) (c a : Nat) : Nat → Nat → Int32 := ab_up (ab_up I mx 15 (nI c)) mx 16 (nI a)
def mB (I : Nat → Nat → Int32) (S N : Nat) (sd : Nat → Bool) (e1 e2 pr fm : Nat → Nat) : Prop := (I mx 3 = -1 ∧ S = 4 ∨ I mx 3 = nI S) ∧ I mx_reading 0 = nI N ∧ 2 ≤ S ∧ S ≤ 10 ∧ N ≤ 24 ∧ (∀ k, k < 32 → bt (I mx_reading 1) k = sd k) ∧ I mx_reading 2 = 0 ∧ ∀ k, k < N → I mx_reading (3 + k) = nI (e1 k) ∧ I mx_reading (27 + k) = nI (e2 k) ∧ I mx_reading (51 + k) = nI (pr k) ∧ I mx_reading (75 + k) = nI (fm k)
def mR (I : Nat → Nat → Int32) (b : Nat → Nat) (Z : Nat) (t : Tk) (S N : Nat) (sd : Nat → Bool) (e1 e2 pr fm : Nat → Nat) : Prop := mT I b Z ∧ mAt I t ∧ tOk Z t ∧ I mx 15 = 0 ∧ mB I S N sd e1 e2 pr fm
def mF (I : Nat → Nat → Int32) (c a : Nat) : Prop := I mx 15 = nI c ∧ I mx 16 = nI a ∧ 1 ≤ c ∧ c ≤ 5
/-- what the model's reading leaves as it is -/
def mnf (J I : Nat → Nat → Int32) : Prop := (∀ c, c ≠ mx → c ≠ mx_reading → J c = I c) ∧ ∀ k, k ≠ 3 → k ≠ 9 → k ≠ 11 → k ≠ 12 → k ≠ 13 → k ≠ 14 → k ≠ 15 → k ≠ 16 → J mx k = I mx k
theorem mnf_trans {K J I : Nat → Nat → Int32} (h : mnf K J) (g : mnf J I) : mnf K I := ⟨fun c h1 h2 => (h.1 c h1 h2).trans (g.1 c h1 h2), fun k a b c d e f g' h' => (h.2 k a b c d e f g' h').trans (g.2 k a b c d e f g' h')⟩
theorem mnf_refl {I : Nat → Nat → Int32} : mnf I I := ⟨fun _ _ _ => rfl, fun _ _ _ _ _ _ _ _ _ => rfl⟩
theorem mnf_mv {J I : Nat → Nat → Int32} (h : mmv J I) : mnf J I := ⟨fun c h1 _ => h.1 c h1, fun k _ b c d e f _ _ => h.2 k b c d e f⟩
theorem mnf_wrg {I : Nat → Nat → Int32} {c a : Nat} : mnf (wrg I c a) I := ⟨fun x h1 _ => by unfold wrg; rw [ab_up_o h1, ab_up_o h1], fun k _ _ _ _ _ _ h15 h16 => by unfold wrg; rw [ab_up_i, pk_un h16, ab_up_i, pk_un h15]⟩
theorem mnf_rd {J I : Nat → Nat → Int32} {k : Nat} {x : Int32} (h : mnf J I) : mnf (ab_up J mx_reading k x) I := ⟨fun c h1 h2 => by rw [ab_up_o h2]; exact h.1 c h1 h2, fun j a b c d e f g h' => by rw [ab_up_o (by decide)]; exact h.2 j a b c d e f g h'⟩
theorem mF_wrg {I : Nat → Nat → Int32} {c a : Nat} (h1 : 1 ≤ c) (h5 : c ≤ 5) : mF (wrg I c a) c a := ⟨by unfold wrg; rw [ab_up_i, pk_un (by decide), ab_up_i, pk_us], by unfold wrg; rw [ab_up_i, pk_us], h1, h5⟩
theorem mF_ne {I : Nat → Nat → Int32} {c a : Nat} (h : mF I c a) : ¬ I mx 15 = 0 := fun e => by
  have h1 := h.2.2
  rw [h.1] at e
  have := (nI_eq (b := 0) (by omega) (by omega)).mp e
  omega
theorem mF_rd {I : Nat → Nat → Int32} {c a k : Nat} {x : Int32} (h : mF I c a) : mF (ab_up I mx_reading k x) c a := ⟨by rw [ab_up_o (by decide)]; exact h.1, by rw [ab_up_o (by decide)]; exact h.2.1, h.2.2⟩
section MRD
variable {w : ab_Wd} {d n nc ns : Nat} {I : Nat → Nat → Int32} {L : Nat → Nat → Int64}
variable {b : Nat → Nat} {Z : Nat} {t : Tk} {S N : Nat} {sd : Nat → Bool} {e1 e2 pr fm : Nat → Nat}
theorem Bz_num (hT : w.1.stackTraces = false) (h : ¬ I mx 15 = 0) (v u : Int32) : ab_P w (d + 1) mt_M_numberNow [.ref mx, .int v, .int u] I L n nc ns v := by
  refine ab_C_of (by decide) rfl (Nat.le_of_ble_eq_true rfl) hT ?_
  refine r_M_numberNow_0 hT _ _ (Nat.le_refl _) (Nat.le_refl _) ?_
  exact bb_f h rfl
theorem Bz_read (hT : w.1.stackTraces = false) (h : ¬ I mx 15 = 0) (v u : Int32) : ab_P w (d + 2) mt_M_readNumber [.ref mx, .int v, .int u] I L n nc ns v := by
  refine ab_C_of (by decide) rfl (Nat.le_of_ble_eq_true rfl) hT ?_
  refine r_M_readNumber_0 hT _ _ (Nat.le_refl _) (Nat.le_refl _) ?_
  exact ⟨_, _, Bz_num (d := d) (w := w) (n := n) (nc := nc) (ns := ns) (L := L) hT h v u, bb_f' h rfl⟩
theorem Bz_site (hT : w.1.stackTraces = false) (h : ¬ I mx 15 = 0) : ab_P w (d + 2) mt_M_siteNow [.ref mx] I L n nc ns 0 := by
  refine ab_C_of (by decide) rfl (Nat.le_of_ble_eq_true rfl) hT ?_
  refine r_M_siteNow_0 hT (Nat.le_refl _) (Nat.le_refl _) ?_
  exact ⟨_, _, Bz_num (d := d) (w := w) (n := n) (nc := nc) (ns := ns) (L := L) hT h 0 9, bb_f' h rfl⟩
theorem z_numNow (hT : w.1.stackTraces = false) (hZ : Z ≤ 700) (ht : tOk Z t) (h : mAt I t) (h7 : I mx 15 = 0) {lo hi : Nat} (hl : lo ≤ hi) (hh : hi ≤ 999) : (∃ c, num t lo hi = .inl (c, t.2.1) ∧ 1 ≤ c ∧ c ≤ 2 ∧ ab_PU w (d + 1) mt_M_numberNow [.ref mx, .int (nI lo), .int (nI hi)] I L n nc ns (nI lo) (wrg I c t.2.1)) ∨ (∃ v, num t lo hi = .inr v ∧ lo ≤ v ∧ v ≤ hi ∧ ab_P w (d + 1) mt_M_numberNow [.ref mx, .int (nI lo), .int (nI hi)] I L n nc ns (nI v)) := by
  obtain ⟨r11, r13, r9, r14, r12⟩ := h
  obtain ⟨t1, t2, t3, t4⟩ := ht
  by_cases hk : t.1 = 2
  · have k4 : I mx 11 = 2 := by rw [r11, hk]; rfl
    have es : I mx 14 - I mx 13 = nI (t.2.2.1 - t.2.1) := by rw [r14, r13, nI_sub t2]
    by_cases h3 : t.2.1 + 3 < t.2.2.1
    · refine Or.inl ⟨2, by unfold num; rw [if_pos hk, if_pos (Or.inl h3)], by omega, by omega, ?_⟩
      unfold wrg
      refine ab_C_of (by decide) rfl (Nat.le_of_ble_eq_true rfl) hT ?_
      refine r_M_numberNow_0 hT _ _ (Nat.le_refl _) (Nat.le_refl _) ?_
      rw [es, r13]
      exact bb_t h7 (bb_t k4 (bb_t ((nI_ltI (a := 3) (by omega) (by omega)).mpr (by omega)) (bb_t h7 rfl)))
    · have n3 : ¬ 3 < nI (t.2.2.1 - t.2.1) := fun h => by have := (nI_ltI (a := 3) (by omega) (by omega)).mp h; omega
      have t4 := t4 hk (by omega)
      have r6 := r12 hk (by omega)
      by_cases h1 : t.2.2.2 < lo
      · refine Or.inl ⟨2, by unfold num; rw [if_pos hk, if_pos (Or.inr (Or.inl h1))], by omega, by omega, ?_⟩
        unfold wrg
        refine ab_C_of (by decide) rfl (Nat.le_of_ble_eq_true rfl) hT ?_
        refine r_M_numberNow_0 hT _ _ (Nat.le_refl _) (Nat.le_refl _) ?_
        rw [es, r13, r6]
        exact bb_t h7 (bb_t k4 (bb_f n3 (bb_t ((nI_ltI (by omega) (by omega)).mpr h1) (bb_t h7 rfl))))
      · have n1 : ¬ nI t.2.2.2 < nI lo := fun h => h1 ((nI_ltI (by omega) (by omega)).mp h)
        by_cases h2 : hi < t.2.2.2
        · refine Or.inl ⟨2, by unfold num; rw [if_pos hk, if_pos (Or.inr (Or.inr h2))], by omega, by omega, ?_⟩
          unfold wrg
          refine ab_C_of (by decide) rfl (Nat.le_of_ble_eq_true rfl) hT ?_
          refine r_M_numberNow_0 hT _ _ (Nat.le_refl _) (Nat.le_refl _) ?_
          rw [es, r13, r6]
          exact bb_t h7 (bb_t k4 (bb_f n3 (bb_f n1 (bb_f (fun h => by have := (nI_leI (by omega) (by omega)).mp h; omega) (bb_t h7 rfl)))))
        · refine Or.inr ⟨t.2.2.2, by unfold num; rw [if_pos hk, if_neg (by omega)], by omega, by omega, ?_⟩
          refine ab_C_of (by decide) rfl (Nat.le_of_ble_eq_true rfl) hT ?_
          refine r_M_numberNow_0 hT _ _ (Nat.le_refl _) (Nat.le_refl _) ?_
          rw [es, r6]
          exact bb_t h7 (bb_t k4 (bb_f n3 (bb_f n1 (bb_t ((nI_leI (by omega) (by omega)).mpr (by omega)) (bb_t' h7 rfl)))))
  · refine Or.inl ⟨1, by unfold num; rw [if_neg hk], by omega, by omega, ?_⟩
    unfold wrg
    refine ab_C_of (by decide) rfl (Nat.le_of_ble_eq_true rfl) hT ?_
    refine r_M_numberNow_0 hT _ _ (Nat.le_refl _) (Nat.le_refl _) ?_
    rw [r13]
    exact bb_t h7 (bb_f (fun h => by rw [r11] at h; exact hk ((nI_eq (b := 2) (by omega) (by omega)).mp h)) (bb_t h7 rfl))
theorem mB_cong {J : Nat → Nat → Int32} (z3 : J mx 3 = I mx 3) (z : J mx_reading = I mx_reading) (h : mB I S N sd e1 e2 pr fm) : mB J S N sd e1 e2 pr fm := by
  unfold mB at *
  rw [z3, z]; exact h
theorem Az_next (hT : w.1.stackTraces = false) (h : mR I b Z t S N sd e1 e2 pr fm) : ∃ J, mmv J I ∧ mR J b Z (nxt b Z t) S N sd e1 e2 pr fm ∧ ab_U w (d + 1) mt_M_stepOn [.ref mx] I L n nc ns J := by
  obtain ⟨h1, h2, h3, h4, h6⟩ := h
  obtain ⟨J, g1, g2, g3⟩ := z_next (d := d) (w := w) (n := n) (nc := nc) (ns := ns) (L := L) hT h1 h3.2.2.1 h2.2.2.1
  exact ⟨J, g1, ⟨mT_mv g1 h1, g2, (nxt_ok h3).1, by rw [g1.2 15 (by decide) (by decide) (by decide) (by decide) (by decide)]; exact h4, mB_cong (g1.2 3 (by decide) (by decide) (by decide) (by decide) (by decide)) (g1.1 _ (by decide)) h6⟩, g3⟩
/-- a number, and one sign on -/
theorem z_readNum (hT : w.1.stackTraces = false) (h : mR I b Z t S N sd e1 e2 pr fm) {lo hi : Nat} (hl : lo ≤ hi) (hh : hi ≤ 999) : (∃ c, num t lo hi = .inl (c, t.2.1) ∧ 1 ≤ c ∧ c ≤ 2 ∧ ab_PU w (d + 2) mt_M_readNumber [.ref mx, .int (nI lo), .int (nI hi)] I L n nc ns (nI lo) (wrg I c t.2.1)) ∨ (∃ v, num t lo hi = .inr v ∧ lo ≤ v ∧ v ≤ hi ∧ ∃ J, mmv J I ∧ mR J b Z (nxt b Z t) S N sd e1 e2 pr fm ∧ ab_PU w (d + 2) mt_M_readNumber [.ref mx, .int (nI lo), .int (nI hi)] I L n nc ns (nI v) J) := by
  rcases z_numNow (d := d) (w := w) (n := n) (nc := nc) (ns := ns) (L := L) hT h.1.2.1 h.2.2.1 h.2.1 h.2.2.2.1 hl hh with ⟨c, g1, g2, g3, u⟩ | ⟨v, g1, g2, g3, u⟩
  · refine Or.inl ⟨c, g1, g2, g3, ?_⟩
    refine ab_C_of (by decide) rfl (Nat.le_of_ble_eq_true rfl) hT ?_
    refine r_M_readNumber_0 hT _ _ (Nat.le_refl _) (Nat.le_refl _) ?_
    exact ⟨_, _, u, bb_f' (mF_ne (mF_wrg g2 (by omega))) rfl⟩
  · obtain ⟨J, f, r, u2⟩ := Az_next (d := d) (w := w) (n := n) (nc := nc) (ns := ns) (L := L) hT h
    refine Or.inr ⟨v, g1, g2, g3, J, f, r, ?_⟩
    refine ab_C_of (by decide) rfl (Nat.le_of_ble_eq_true rfl) hT ?_
    refine r_M_readNumber_0 hT _ _ (Nat.le_refl _) (Nat.le_refl _) ?_
    exact ⟨_, _, u, bb_t' h.2.2.2.1 ⟨_, u2, rfl⟩⟩
theorem z_siteNow (hT : w.1.stackTraces = false) (h : mR I b Z t S N sd e1 e2 pr fm) : (∃ c a, sit t S = .inl (c, a) ∧ 1 ≤ c ∧ c ≤ 5 ∧ ∃ r, ab_PU w (d + 2) mt_M_siteNow [.ref mx] I L n nc ns r (wrg I c a)) ∨ (∃ v, sit t S = .inr v ∧ v < S ∧ ab_P w (d + 2) mt_M_siteNow [.ref mx] I L n nc ns (nI v)) := by
  have hS2 := h.2.2.2.2.2.2.1
  have hS10 := h.2.2.2.2.2.2.2.1
  have h7 := h.2.2.2.1
  rcases z_numNow (d := d) (w := w) (n := n) (nc := nc) (ns := ns) (L := L) hT h.1.2.1 h.2.2.1 h.2.1 h7 (lo := 0) (hi := 9) (by omega) (by omega) with ⟨c, g1, g2, g3, u⟩ | ⟨v, g1, g2, g3, u⟩
  · refine Or.inl ⟨c, t.2.1, by unfold sit; rw [g1], g2, by omega, nI 0, ?_⟩
    refine ab_C_of (by decide) rfl (Nat.le_of_ble_eq_true rfl) hT ?_
    refine r_M_siteNow_0 hT (Nat.le_refl _) (Nat.le_refl _) ?_
    exact ⟨_, _, u, bb_f' (mF_ne (mF_wrg g2 (by omega))) rfl⟩
  · have cs : ∀ (X Y : Prop), ((I mx 3 = -1 ∧ S = 4 ∨ I mx 3 = nI S) → (v < S → X) → (¬ v < S → Y) → ((I mx 3 = -1 → ((nI v < 4 → X) ∧ (¬ nI v < 4 → Y))) ∧ (¬ I mx 3 = -1 → ((nI v < I mx 3 → X) ∧ (¬ nI v < I mx 3 → Y))))) := by
      intro X Y hs hX hY
      have l4 : nI v < 4 ↔ v < 4 := nI_ltI (b := 4) (by omega) (by omega)
      have lS : nI v < nI S ↔ v < S := nI_ltI (by omega) (by omega)
      rcases hs with ⟨a1, a2⟩ | a1
      · subst a2
        refine bb_t a1 ⟨fun g => hX (l4.mp g), fun g => hY (fun e => g (l4.mpr e))⟩
      · rw [a1]
        exact bb_f (nI_m1 (by omega)) ⟨fun g => hX (lS.mp g), fun g => hY (fun e => g (lS.mpr e))⟩
    by_cases e : v < S
    · refine Or.inr ⟨v, by unfold sit; rw [g1]; exact if_pos e, e, ?_⟩
      refine ab_C_of (by decide) rfl (Nat.le_of_ble_eq_true rfl) hT ?_
      refine r_M_siteNow_0 hT (Nat.le_refl _) (Nat.le_refl _) ?_
      exact ⟨_, _, u, bb_t' h7 (cs _ _ h.2.2.2.2.1 (fun _ => rfl) (fun g => absurd e g))⟩
    · refine Or.inl ⟨3, t.2.1, by unfold sit; rw [g1]; exact if_neg e, by omega, by omega, nI v, ?_⟩
      unfold wrg
      refine ab_C_of (by decide) rfl (Nat.le_of_ble_eq_true rfl) hT ?_
      refine r_M_siteNow_0 hT (Nat.le_refl _) (Nat.le_refl _) ?_
      exact ⟨_, _, u, bb_t' h7 (cs _ _ h.2.2.2.2.1 (fun g => absurd g e) (fun _ => bb_t h7 (by rw [h.2.1.2.1]; rfl)))⟩
/-- behind a fault the rest of a cable's clause is gone over -/
theorem Bz164 (hT : w.1.stackTraces = false) {c a k : Nat} (hk : k < 24) (h : mF I c a) (s2 : Int32) : ∃ J, mnf J I ∧ mF J c a ∧ ab_E w (d + 3) mt_M_readCable 164 [.ref mx, .int (nI k)] [.int s2, .int (75 + nI k), .ref mx_reading] (I, L, ab_RR, n, nc, ns) (.inl none, (J, L, ab_RR, n, nc, ns)) := by
  refine ⟨(ab_up (ab_up (ab_up I mx_reading (75 + nI k).toNatClampNeg s2) mx_reading 1 (((ab_up I mx_reading (75 + nI k).toNatClampNeg s2) mx_reading 1) ||| ((1 : Int32) <<< (nI k &&& 31)))) mx_reading 0 (((ab_up (ab_up I mx_reading (75 + nI k).toNatClampNeg s2) mx_reading 1 (((ab_up I mx_reading (75 + nI k).toNatClampNeg s2) mx_reading 1) ||| ((1 : Int32) <<< (nI k &&& 31)))) mx_reading 0) + 1)), mnf_rd (mnf_rd (mnf_rd mnf_refl)), mF_rd (mF_rd (mF_rd h)), ?_⟩
  refine r_M_readCable_164 hT _ _ _ (Nat.le_refl _) (Nat.le_refl _) ?_
  exact ⟨by rw [nl_add2]; exact vp_in_nI (by omega) (by omega), rfl⟩
theorem Bz114 (hT : w.1.stackTraces = false) {c a k : Nat} (hk : k < 24) (h : mF I c a) : ∃ J, mnf J I ∧ mF J c a ∧ ab_E w ((d + 2) + 1) mt_M_readCable 114 [.ref mx, .int (nI k)] [] (I, L, ab_RR, n, nc, ns) (.inl none, (J, L, ab_RR, n, nc, ns)) := by
  obtain ⟨J, f, r, u⟩ := Bz164 (d := d) (w := w) (n := n) (nc := nc) (ns := ns) (L := L) hT hk (mF_rd (k := 51 + k) (x := 1) h) 0
  refine ⟨J, mnf_trans f (mnf_rd mnf_refl), r, ?_⟩
  refine r_M_readCable_114 hT _ (Nat.le_refl _) (Nat.le_refl _) ?_
  refine ⟨_, _, Bz_read (d := d) (w := w) (n := n) (nc := nc) (ns := ns) (L := L) hT (mF_ne h) 1 999, by rw [nl_add2]; exact vp_in_nI (by omega) (by omega), bb_f' (mF_ne h) ?_⟩
  refine r_M_readCable_163 hT _ _ (Nat.le_refl _) (Nat.le_refl _) ?_
  rw [show (51 + nI k).toNatClampNeg = 51 + k by rw [nl_add2, nI_clamp (by omega)]]
  exact u
theorem Bz103 (hT : w.1.stackTraces = false) {c a k : Nat} (hk : k < 24) (h : mF I c a) : ∃ J, mnf J I ∧ mF J c a ∧ ab_E w ((d + 2) + 1) mt_M_readCable 103 [.ref mx, .int (nI k)] [] (I, L, ab_RR, n, nc, ns) (.inl none, (J, L, ab_RR, n, nc, ns)) := by
  obtain ⟨J, f, r, u⟩ := Bz114 (d := d) (w := w) (n := n) (nc := nc) (ns := ns) (L := L) hT hk h
  refine ⟨J, f, r, ?_⟩
  refine r_M_readCable_103 hT _ (Nat.le_refl _) (Nat.le_refl _) ?_
  exact bb_f' (mF_ne h) u
theorem Bz58 (hT : w.1.stackTraces = false) {c a k : Nat} (hk : k < 24) (h : mF I c a) : ∃ J, mnf J I ∧ mF J c a ∧ ab_E w ((d + 2) + 1) mt_M_readCable 58 [.ref mx, .int (nI k)] [] (I, L, ab_RR, n, nc, ns) (.inl none, (J, L, ab_RR, n, nc, ns)) := by
  obtain ⟨J, f, r, u⟩ := Bz103 (d := d) (w := w) (n := n) (nc := nc) (ns := ns) (L := L) hT hk (mF_rd (k := 27 + k) (x := 0) h)
  refine ⟨J, mnf_trans f (mnf_rd mnf_refl), r, ?_⟩
  refine r_M_readCable_58 hT _ (Nat.le_refl _) (Nat.le_refl _) ?_
  refine ⟨_, _, Bz_site (d := d) (w := w) (n := n) (nc := nc) (ns := ns) (L := L) hT (mF_ne h), by rw [nl_add2]; exact vp_in_nI (by omega) (by omega), bb_f' (mF_ne h) ?_⟩
  rw [show (27 + nI k).toNatClampNeg = 27 + k by rw [nl_add2, nI_clamp (by omega)]]
  exact u
end MRD
