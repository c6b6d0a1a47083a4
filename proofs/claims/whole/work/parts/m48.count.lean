/-! THE TWO SIDE BY SIDE: count -/
theorem v_cases (v : Int32) (m : Nat) (hm : m < 2 ^ 31) : (∃ i, i ≤ m ∧ v = nI i) ∨ (v.toInt < 0 ∨ (m : Int) < v.toInt) := by
  by_cases h : v.toInt < 0
  · exact Or.inr (Or.inl h)
  · by_cases g : (m : Int) < v.toInt
    · exact Or.inr (Or.inr g)
    · refine Or.inl ⟨v.toInt.toNat, by omega, ?_⟩
      apply Int32.toInt_inj.mp
      rw [nI_toInt (by omega)]
      omega
theorem min32_comm (a b : Int32) : ab_min32 a b = ab_min32 b a := by
  unfold ab_min32
  by_cases h : b < a
  · have g : ¬ a < b := by
      rw [Int32.lt_iff_toInt_lt] at h ⊢; omega
    rw [if_pos h, if_neg g]
  · rw [if_neg h]
    by_cases g : a < b
    · rw [if_pos g]
    · rw [if_neg g]
      apply Int32.toInt_inj.mp
      rw [Int32.lt_iff_toInt_lt] at h g
      omega
def qOk (w : ab_Wd) (d : Nat) (mk mm : ab_Me) (as : List Value) (I : Nat → Nat → Int32) (L : Nat → Nat → Int64) (n nc ns : Nat) (J : Nat → Nat → Int32) : Prop := kfr J I ∧ ∃ r, ab_PU w d mk (.ref kx :: as) I L n nc ns r J ∧ ∀ L n nc ns, ∃ K, mgr K J ∧ K mx 1 = 0 ∧ ab_PU w d mm (.ref mx :: as) J L n nc ns r K
def qNo (w : ab_Wd) (d : Nat) (mk mm : ab_Me) (as : List Value) (I : Nat → Nat → Int32) (L : Nat → Nat → Int64) (n nc ns : Nat) (J : Nat → Nat → Int32) (E : String) (c : Int32) : Prop := kfr J I ∧ ab_C w d mk (.ref kx :: as) (I, L, ab_RR, n, nc, ns) (.inr E, (J, L, ab_RR, n, nc + 1, ns + 6)) ∧ ∀ L n nc ns, ∃ r K, mgr K J ∧ K mx 1 = c ∧ ab_PU w d mm (.ref mx :: as) J L n nc ns r K
/-- the class and the model hold the same -/
def RQ (I : Nat → Nat → Int32) (S N : Nat) (sd : Nat → Bool) (e1 e2 pr fm : Nat → Nat) (l : List Nat) : Prop := kQ I S N sd e1 e2 pr fm l ∧ mC I S N sd e1 e2 pr fm l ∧ I kx_now_swaps 1 = I mx_now 2 ∧ I kx_now_acts 5 = I mx 41 ∧ I kx_now 3 = I mx 43 ∧ I kx 1 = I mx 8 ∧ I kx_now_refused 0 = I mx_status 0 ∧ I kx_now_refused 1 = I mx_status 1 ∧ I kx_now_refused 2 = I mx_status 2
section JCO
variable {w : ab_Wd} {d n nc ns : Nat} {I : Nat → Nat → Int32} {L : Nat → Nat → Int64}
variable {S N : Nat} {sd : Nat → Bool} {e1 e2 pr fm : Nat → Nat} {l : List Nat}
theorem mC_kfr {J : Nat → Nat → Int32} (h : kfr J I) (g : mC I S N sd e1 e2 pr fm l) : mC J S N sd e1 e2 pr fm l := by
  have e1' : J mx_now = I mx_now := h _ (by unfold kscr; decide)
  have e2' : J mx = I mx := h _ (by unfold kscr; decide)
  unfold mC nm_pre at *
  rw [e1', e2']; exact g
theorem mfr_ok {K J : Nat → Nat → Int32} (h : mfr K (ab_up J mx 1 0)) : mgr K J ∧ K mx 1 = 0 := ⟨mgr_trans (mgr_of h) mgr_c, by rw [h.2 1 (Or.inl rfl), ab_up_i, pk_us]⟩
theorem mgr_0 {J : Nat → Nat → Int32} : mgr (ab_up J mx 1 0) J ∧ (ab_up J mx 1 0) mx 1 = 0 := ⟨mgr_c, by rw [ab_up_i, pk_us]⟩
theorem mgr_x {J : Nat → Nat → Int32} {c : Int32} : mgr (ab_up (ab_up J mx 1 0) mx 1 c) J ∧ (ab_up (ab_up J mx 1 0) mx 1 c) mx 1 = c := ⟨mgr_trans mgr_c mgr_c, by rw [ab_up_i, pk_us]⟩
theorem kx_kfr {J : Nat → Nat → Int32} (h : ∀ c, c ≠ kx_roads → c ≠ kx_roads_lengths → J c = I c) : kfr J I := fun c hc => h c (fun e => hc (by rw [e]; unfold kscr; decide)) (fun e => hc (by rw [e]; unfold kscr; decide))
theorem ab_ex {w : ab_Wd} {d : Nat} {m : ab_Me} {as : List Value} {M M' : ab_M} {r : Int32} (h : ab_C w d m as M (.inl (some (.int r)), M')) : ∃ r', r' = r ∧ ab_C w d m as M (.inl (some (.int r')), M') := ⟨r, rfl, h⟩
theorem j_count (hT : w.1.stackTraces = false) (hR : RQ I S N sd e1 e2 pr fm l) (v : Int32) : (∃ J, qOk w (d + 16) mt_K_count mt_M_count [.int v] I L n nc ns J) ∨ qNo w (d + 16) mt_K_count mt_M_count [.int v] I L n nc ns I "java/util/NoSuchElementException" 1 := by
  obtain ⟨hq, hm, s1, s2, s3, s4, s5, s6, s7⟩ := hR
  have hm0 : mC (ab_up I mx 1 0) S N sd e1 e2 pr fm l := mC_gr mgr_c hm
  have k0 : I kx_now_cables 0 = nI S := hq.1.1.1
  have k1 : I kx_now_cables 1 = nI N := hq.1.1.2.1
  have z0 : I mx 2 = nI S := hm.1.1
  have z1 : I mx_now 0 = nI N := hm.1.2.1
  have k2 : I kx_now_cables 2 = I mx_now 1 := b_ext fun k hk => by rw [hq.1.2.2.2.1 k hk, hm.2.2.1 k hk]
  rcases v_cases v 22 (by decide) with ⟨i, hi, e⟩ | hout
  · subst e
    left
    have hi : i = 0 ∨ i = 1 ∨ i = 2 ∨ i = 3 ∨ i = 4 ∨ i = 5 ∨ i = 6 ∨ i = 7 ∨ i = 8 ∨ i = 9 ∨ i = 10 ∨ i = 11 ∨ i = 12 ∨ i = 13 ∨ i = 14 ∨ i = 15 ∨ i = 16 ∨ i = 17 ∨ i = 18 ∨ i = 19 ∨ i = 20 ∨ i = 21 ∨ i = 22 := by omega
    rcases hi with e | e | e | e | e | e | e | e | e | e | e | e | e | e | e | e | e | e | e | e | e | e | e <;> subst e
    · refine ⟨I, kfr_refl, I kx_now_cables 0, ?_, fun L n nc ns => ⟨_, mgr_0.1, mgr_0.2, ?_⟩⟩
      · refine ab_C_of (by decide) rfl (Nat.le_of_ble_eq_true rfl) hT ?_
        refine r_K_count_0 hT _ (by omega) (Nat.le_refl _) (Nat.le_refl _) ?_
        (and_intros <;> intro h <;> first | exact absurd h (by decide) | exact rfl)
      · rw [k0, ← z0]
        refine ab_C_of (by decide) rfl (Nat.le_of_ble_eq_true rfl) hT ?_
        refine r_M_count_0 hT _ (Nat.le_refl _) (Nat.le_refl _) ?_
        (and_intros <;> intro h <;> first | exact absurd h (by decide) | exact rfl)
    · refine ⟨I, kfr_refl, I kx_now_cables 1, ?_, fun L n nc ns => ⟨_, mgr_0.1, mgr_0.2, ?_⟩⟩
      · refine ab_C_of (by decide) rfl (Nat.le_of_ble_eq_true rfl) hT ?_
        refine r_K_count_0 hT _ (by omega) (Nat.le_refl _) (Nat.le_refl _) ?_
        (and_intros <;> intro h <;> first | exact absurd h (by decide) | exact rfl)
      · rw [k1, ← z1]
        refine ab_C_of (by decide) rfl (Nat.le_of_ble_eq_true rfl) hT ?_
        refine r_M_count_0 hT _ (Nat.le_refl _) (Nat.le_refl _) ?_
        (and_intros <;> intro h <;> first | exact absurd h (by decide) | exact rfl)
    · refine ⟨I, kfr_refl, I kx_now_cables 2, ?_, fun L n nc ns => ⟨_, mgr_0.1, mgr_0.2, ?_⟩⟩
      · refine ab_C_of (by decide) rfl (Nat.le_of_ble_eq_true rfl) hT ?_
        refine r_K_count_0 hT _ (by omega) (Nat.le_refl _) (Nat.le_refl _) ?_
        (and_intros <;> intro h <;> first | exact absurd h (by decide) | exact rfl)
      · rw [k2]
        refine ab_C_of (by decide) rfl (Nat.le_of_ble_eq_true rfl) hT ?_
        refine r_M_count_0 hT _ (Nat.le_refl _) (Nat.le_refl _) ?_
        (and_intros <;> intro h <;> first | exact absurd h (by decide) | exact rfl)
    · refine ⟨I, kfr_refl, I kx_forest 2, ?_, fun L n nc ns => ?_⟩
      · refine ab_C_of (by decide) rfl (Nat.le_of_ble_eq_true rfl) hT ?_
        refine r_K_count_0 hT _ (by omega) (Nat.le_refl _) (Nat.le_refl _) ?_
        (and_intros <;> intro h <;> first | exact absurd h (by decide) | exact rfl)
      · obtain ⟨K, r, b1, b2, b3⟩ := z_netNow (d := d + 12) (w := w) (n := n) (nc := nc) (ns := ns) (L := L) hT hm0
        have e : I kx_forest 2 = r := b_ext fun k hk => by rw [kq_bits hq hk, b2 k hk]
        rw [e]
        refine ⟨K, (mfr_ok (mfr_nm b1)).1, (mfr_ok (mfr_nm b1)).2, ?_⟩
        refine ab_C_of (by decide) rfl (Nat.le_of_ble_eq_true rfl) hT ?_
        refine r_M_count_0 hT _ (Nat.le_refl _) (Nat.le_refl _) ?_
        (and_intros <;> intro h <;> first | exact absurd h (by decide) | exact ⟨_, K, b3, rfl⟩)
    · refine ⟨I, kfr_refl, I kx_forest 3, ?_, fun L n nc ns => ?_⟩
      · refine ab_C_of (by decide) rfl (Nat.le_of_ble_eq_true rfl) hT ?_
        refine r_K_count_0 hT _ (by omega) (Nat.le_refl _) (Nat.le_refl _) ?_
        (and_intros <;> intro h <;> first | exact absurd h (by decide) | exact rfl)
      · obtain ⟨K, b1, b3⟩ := z_totalNow (d := d + 11) (w := w) (n := n) (nc := nc) (ns := ns) (L := L) hT hm0
        have e : I kx_forest 3 = nI ((net e1 e2 sd l).map pr).sum := hq.2.2.2.1
        rw [e]
        refine ⟨K, (mfr_ok b1).1, (mfr_ok b1).2, ?_⟩
        refine ab_C_of (by decide) rfl (Nat.le_of_ble_eq_true rfl) hT ?_
        refine r_M_count_0 hT _ (Nat.le_refl _) (Nat.le_refl _) ?_
        (and_intros <;> intro h <;> first | exact absurd h (by decide) | exact ⟨_, K, b3, rfl⟩)
    · refine ⟨I, kfr_refl, I kx_forest 4, ?_, fun L n nc ns => ?_⟩
      · refine ab_C_of (by decide) rfl (Nat.le_of_ble_eq_true rfl) hT ?_
        refine r_K_count_0 hT _ (by omega) (Nat.le_refl _) (Nat.le_refl _) ?_
        (and_intros <;> intro h <;> first | exact absurd h (by decide) | exact rfl)
      · obtain ⟨K, b1, b3⟩ := z_piecesNow (d := d + 11) (w := w) (n := n) (nc := nc) (ns := ns) (L := L) hT hm0
        have e : I kx_forest 4 = nI (S - (net e1 e2 sd l).length) := hq.2.2.2.2.1
        rw [e]
        refine ⟨K, (mfr_ok b1).1, (mfr_ok b1).2, ?_⟩
        refine ab_C_of (by decide) rfl (Nat.le_of_ble_eq_true rfl) hT ?_
        refine r_M_count_0 hT _ (Nat.le_refl _) (Nat.le_refl _) ?_
        (and_intros <;> intro h <;> first | exact absurd h (by decide) | exact ⟨_, K, b3, rfl⟩)
    · refine ⟨I, kfr_refl, ab_min32 (I kx_now_swaps 1) 60, ?_, fun L n nc ns => ⟨_, mgr_0.1, mgr_0.2, ?_⟩⟩
      · refine ab_C_of (by decide) rfl (Nat.le_of_ble_eq_true rfl) hT ?_
        refine r_K_count_0 hT _ (by omega) (Nat.le_refl _) (Nat.le_refl _) ?_
        (and_intros <;> intro h <;> first | exact absurd h (by decide) | exact rfl)
      · rw [s1, min32_comm]
        refine ab_C_of (by decide) rfl (Nat.le_of_ble_eq_true rfl) hT ?_
        refine r_M_count_0 hT _ (Nat.le_refl _) (Nat.le_refl _) ?_
        (and_intros <;> intro h <;> first | exact absurd h (by decide) | exact rfl)
    · refine ⟨I, kfr_refl, I kx_now_swaps 1, ?_, fun L n nc ns => ⟨_, mgr_0.1, mgr_0.2, ?_⟩⟩
      · refine ab_C_of (by decide) rfl (Nat.le_of_ble_eq_true rfl) hT ?_
        refine r_K_count_0 hT _ (by omega) (Nat.le_refl _) (Nat.le_refl _) ?_
        (and_intros <;> intro h <;> first | exact absurd h (by decide) | exact rfl)
      · rw [s1]
        refine ab_C_of (by decide) rfl (Nat.le_of_ble_eq_true rfl) hT ?_
        refine r_M_count_0 hT _ (Nat.le_refl _) (Nat.le_refl _) ?_
        (and_intros <;> intro h <;> first | exact absurd h (by decide) | exact rfl)
    · have a := k_nextBest (d := d + 12) (w := w) (n := n) (nc := nc) (ns := ns) (L := L) hT hq
      obtain ⟨r, er, a⟩ := ab_ex a
      refine ⟨I, kfr_refl, r, ?k, fun L n nc ns => ?m⟩
      case m =>
        rw [er]
        obtain ⟨K, b1, b3⟩ := z_nextBest (d := d + 11) (w := w) (n := n) (nc := nc) (ns := ns) (L := L) hT hm0
        refine ⟨K, (mfr_ok b1).1, (mfr_ok b1).2, ?_⟩
        refine ab_C_of (by decide) rfl (Nat.le_of_ble_eq_true rfl) hT ?_
        refine r_M_count_0 hT _ (Nat.le_refl _) (Nat.le_refl _) ?_
        (and_intros <;> intro h <;> first | exact absurd h (by decide) | exact ⟨_, K, b3, rfl⟩)
      case k =>
        refine ab_C_of (by decide) rfl (Nat.le_of_ble_eq_true rfl) hT ?_
        refine r_K_count_0 hT _ (by omega) (Nat.le_refl _) (Nat.le_refl _) ?_
        (and_intros <;> intro h <;> first | exact absurd h (by decide) | exact ⟨_, a, rfl⟩)
    · have a := k_hub (d := d + 13) (w := w) (n := n) (nc := nc) (ns := ns) (L := L) hT hq
      obtain ⟨r, er, a⟩ := ab_ex a
      refine ⟨I, kfr_refl, r, ?k, fun L n nc ns => ?m⟩
      case m =>
        rw [er]
        obtain ⟨K, b1, b3⟩ := z_hub (d := d + 11) (w := w) (n := n) (nc := nc) (ns := ns) (L := L) hT hm0
        refine ⟨K, (mfr_ok b1).1, (mfr_ok b1).2, ?_⟩
        refine ab_C_of (by decide) rfl (Nat.le_of_ble_eq_true rfl) hT ?_
        refine r_M_count_0 hT _ (Nat.le_refl _) (Nat.le_refl _) ?_
        (and_intros <;> intro h <;> first | exact absurd h (by decide) | exact ⟨_, K, b3, rfl⟩)
      case k =>
        refine ab_C_of (by decide) rfl (Nat.le_of_ble_eq_true rfl) hT ?_
        refine r_K_count_0 hT _ (by omega) (Nat.le_refl _) (Nat.le_refl _) ?_
        (and_intros <;> intro h <;> first | exact absurd h (by decide) | exact ⟨_, a, rfl⟩)
    · have a := k_longest (d := d + 13) (w := w) (n := n) (nc := nc) (ns := ns) (L := L) hT hq
      obtain ⟨r, er, a⟩ := ab_ex a
      refine ⟨I, kfr_refl, r, ?k, fun L n nc ns => ?m⟩
      case m =>
        rw [er]
        obtain ⟨K, b1, b3⟩ := z_longest (d := d + 11) (w := w) (n := n) (nc := nc) (ns := ns) (L := L) hT hm0
        refine ⟨K, (mfr_ok b1).1, (mfr_ok b1).2, ?_⟩
        refine ab_C_of (by decide) rfl (Nat.le_of_ble_eq_true rfl) hT ?_
        refine r_M_count_0 hT _ (Nat.le_refl _) (Nat.le_refl _) ?_
        (and_intros <;> intro h <;> first | exact absurd h (by decide) | exact ⟨_, K, b3, rfl⟩)
      case k =>
        refine ab_C_of (by decide) rfl (Nat.le_of_ble_eq_true rfl) hT ?_
        refine r_K_count_0 hT _ (by omega) (Nat.le_refl _) (Nat.le_refl _) ?_
        (and_intros <;> intro h <;> first | exact absurd h (by decide) | exact ⟨_, a, rfl⟩)
    · obtain ⟨J, r, a1, a2, a3⟩ := k_twins (d := d + 12) (w := w) (n := n) (nc := nc) (ns := ns) (L := L) hT hq
      refine ⟨J, a1, r, ?_, fun L n nc ns => ?_⟩
      · refine ab_C_of (by decide) rfl (Nat.le_of_ble_eq_true rfl) hT ?_
        refine r_K_count_0 hT _ (by omega) (Nat.le_refl _) (Nat.le_refl _) ?_
        (and_intros <;> intro h <;> first | exact absurd h (by decide) | exact ⟨_, J, a3, rfl⟩)
      · obtain ⟨K, r', b1, b2, b3⟩ := z_twins (d := d + 11) (w := w) (n := n) (nc := nc) (ns := ns) (L := L) hT (mC_gr (mgr_c (x := 0)) (mC_kfr a1 hm))
        rw [tw_uq a2 b2]
        refine ⟨K, (mfr_ok b1).1, (mfr_ok b1).2, ?_⟩
        refine ab_C_of (by decide) rfl (Nat.le_of_ble_eq_true rfl) hT ?_
        refine r_M_count_0 hT _ (Nat.le_refl _) (Nat.le_refl _) ?_
        (and_intros <;> intro h <;> first | exact absurd h (by decide) | exact ⟨_, K, b3, rfl⟩)
    · refine ⟨I, kfr_refl, I kx_now_acts 5, ?_, fun L n nc ns => ⟨_, mgr_0.1, mgr_0.2, ?_⟩⟩
      · refine ab_C_of (by decide) rfl (Nat.le_of_ble_eq_true rfl) hT ?_
        refine r_K_count_0 hT _ (by omega) (Nat.le_refl _) (Nat.le_refl _) ?_
        (and_intros <;> intro h <;> first | exact absurd h (by decide) | exact rfl)
      · rw [s2]
        refine ab_C_of (by decide) rfl (Nat.le_of_ble_eq_true rfl) hT ?_
        refine r_M_count_0 hT _ (Nat.le_refl _) (Nat.le_refl _) ?_
        (and_intros <;> intro h <;> first | exact absurd h (by decide) | exact rfl)
    · refine ⟨I, kfr_refl, I kx_now 3, ?_, fun L n nc ns => ⟨_, mgr_0.1, mgr_0.2, ?_⟩⟩
      · refine ab_C_of (by decide) rfl (Nat.le_of_ble_eq_true rfl) hT ?_
        refine r_K_count_0 hT _ (by omega) (Nat.le_refl _) (Nat.le_refl _) ?_
        (and_intros <;> intro h <;> first | exact absurd h (by decide) | exact rfl)
      · rw [s3]
        refine ab_C_of (by decide) rfl (Nat.le_of_ble_eq_true rfl) hT ?_
        refine r_M_count_0 hT _ (Nat.le_refl _) (Nat.le_refl _) ?_
        (and_intros <;> intro h <;> first | exact absurd h (by decide) | exact rfl)
    · refine ⟨I, kfr_refl, I kx 1, ?_, fun L n nc ns => ⟨_, mgr_0.1, mgr_0.2, ?_⟩⟩
      · refine ab_C_of (by decide) rfl (Nat.le_of_ble_eq_true rfl) hT ?_
        refine r_K_count_0 hT _ (by omega) (Nat.le_refl _) (Nat.le_refl _) ?_
        (and_intros <;> intro h <;> first | exact absurd h (by decide) | exact rfl)
      · rw [s4]
        refine ab_C_of (by decide) rfl (Nat.le_of_ble_eq_true rfl) hT ?_
        refine r_M_count_0 hT _ (Nat.le_refl _) (Nat.le_refl _) ?_
        (and_intros <;> intro h <;> first | exact absurd h (by decide) | exact rfl)
    · refine ⟨I, kfr_refl, I kx_now_refused 0, ?_, fun L n nc ns => ⟨_, mgr_0.1, mgr_0.2, ?_⟩⟩
      · refine ab_C_of (by decide) rfl (Nat.le_of_ble_eq_true rfl) hT ?_
        refine r_K_count_0 hT _ (by omega) (Nat.le_refl _) (Nat.le_refl _) ?_
        (and_intros <;> intro h <;> first | exact absurd h (by decide) | exact rfl)
      · rw [s5]
        have ev : nI 15 - 15 = nI 0 := by decide
        refine ab_C_of (by decide) rfl (Nat.le_of_ble_eq_true rfl) hT ?_
        refine r_M_count_0 hT _ (Nat.le_refl _) (Nat.le_refl _) ?_
        rw [ev, nI_clamp (by omega)]
        (and_intros <;> intro h <;> first | exact absurd h (by decide) | exact ⟨vp_in_nI (by omega) (by omega), rfl⟩)
    · refine ⟨I, kfr_refl, I kx_now_refused 1, ?_, fun L n nc ns => ⟨_, mgr_0.1, mgr_0.2, ?_⟩⟩
      · refine ab_C_of (by decide) rfl (Nat.le_of_ble_eq_true rfl) hT ?_
        refine r_K_count_0 hT _ (by omega) (Nat.le_refl _) (Nat.le_refl _) ?_
        (and_intros <;> intro h <;> first | exact absurd h (by decide) | exact rfl)
      · rw [s6]
        have ev : nI 16 - 15 = nI 1 := by decide
        refine ab_C_of (by decide) rfl (Nat.le_of_ble_eq_true rfl) hT ?_
        refine r_M_count_0 hT _ (Nat.le_refl _) (Nat.le_refl _) ?_
        rw [ev, nI_clamp (by omega)]
        (and_intros <;> intro h <;> first | exact absurd h (by decide) | exact ⟨vp_in_nI (by omega) (by omega), rfl⟩)
    · refine ⟨I, kfr_refl, I kx_now_refused 2, ?_, fun L n nc ns => ⟨_, mgr_0.1, mgr_0.2, ?_⟩⟩
      · refine ab_C_of (by decide) rfl (Nat.le_of_ble_eq_true rfl) hT ?_
        refine r_K_count_0 hT _ (by omega) (Nat.le_refl _) (Nat.le_refl _) ?_
        (and_intros <;> intro h <;> first | exact absurd h (by decide) | exact rfl)
      · rw [s7]
        have ev : nI 17 - 15 = nI 2 := by decide
        refine ab_C_of (by decide) rfl (Nat.le_of_ble_eq_true rfl) hT ?_
        refine r_M_count_0 hT _ (Nat.le_refl _) (Nat.le_refl _) ?_
        rw [ev, nI_clamp (by omega)]
        (and_intros <;> intro h <;> first | exact absurd h (by decide) | exact ⟨vp_in_nI (by omega) (by omega), rfl⟩)
    · obtain ⟨J, a1, a3⟩ := k_weakCouples (d := d + 10) (w := w) (n := n) (nc := nc) (ns := ns) (L := L) hT hq
      obtain ⟨r, er, a3⟩ := ab_ex a3
      refine ⟨J, a1, r, ?k, fun L n nc ns => ?m⟩
      case m =>
        rw [er]
        obtain ⟨K, b1, b2, -, b3⟩ := z_tellWeak (d := d + 10) (w := w) (n := n) (nc := nc) (ns := ns) (L := L) hT (mC_gr (mgr_c (x := 0)) (mC_kfr a1 hm))
        refine ⟨K, (mfr_ok b1).1, (mfr_ok b1).2, ?_⟩
        rw [← b2]
        refine ab_C_of (by decide) rfl (Nat.le_of_ble_eq_true rfl) hT ?_
        refine r_M_count_0 hT _ (Nat.le_refl _) (Nat.le_refl _) ?_
        (and_intros <;> intro h <;> first | exact absurd h (by decide) | exact ⟨K, b3, fun h => absurd rfl h, fun _ => rfl⟩)
      case k =>
        refine ab_C_of (by decide) rfl (Nat.le_of_ble_eq_true rfl) hT ?_
        refine r_K_count_0 hT _ (by omega) (Nat.le_refl _) (Nat.le_refl _) ?_
        (and_intros <;> intro h <;> first | exact absurd h (by decide) | exact ⟨_, J, a3, rfl⟩)
    · obtain ⟨J, a1, a3⟩ := k_firstWeak (d := d + 10) (w := w) (n := n) (nc := nc) (ns := ns) (L := L) hT hq
      obtain ⟨r, er, a3⟩ := ab_ex a3
      refine ⟨J, a1, r, ?k, fun L n nc ns => ?m⟩
      case m =>
        rw [er]
        obtain ⟨K, b1, -, b2, b3⟩ := z_tellWeak (d := d + 10) (w := w) (n := n) (nc := nc) (ns := ns) (L := L) hT (mC_gr (mgr_c (x := 0)) (mC_kfr a1 hm))
        refine ⟨K, (mfr_ok b1).1, (mfr_ok b1).2, ?_⟩
        rw [← b2]
        refine ab_C_of (by decide) rfl (Nat.le_of_ble_eq_true rfl) hT ?_
        refine r_M_count_0 hT _ (Nat.le_refl _) (Nat.le_refl _) ?_
        (and_intros <;> intro h <;> first | exact absurd h (by decide) | exact ⟨K, b3, fun _ => rfl, fun h => absurd h (by decide)⟩)
      case k =>
        refine ab_C_of (by decide) rfl (Nat.le_of_ble_eq_true rfl) hT ?_
        refine r_K_count_0 hT _ (by omega) (Nat.le_refl _) (Nat.le_refl _) ?_
        (and_intros <;> intro h <;> first | exact absurd h (by decide) | exact ⟨_, J, a3, rfl⟩)
    · have a := k_centre (d := d + 13) (w := w) (n := n) (nc := nc) (ns := ns) (L := L) hT hq
      obtain ⟨r, er, a⟩ := ab_ex a
      refine ⟨I, kfr_refl, r, ?k, fun L n nc ns => ?m⟩
      case m =>
        rw [er]
        obtain ⟨K, b1, b3⟩ := z_centre (d := d + 11) (w := w) (n := n) (nc := nc) (ns := ns) (L := L) hT hm0
        refine ⟨K, (mfr_ok b1).1, (mfr_ok b1).2, ?_⟩
        refine ab_C_of (by decide) rfl (Nat.le_of_ble_eq_true rfl) hT ?_
        refine r_M_count_0 hT _ (Nat.le_refl _) (Nat.le_refl _) ?_
        (and_intros <;> intro h <;> first | exact absurd h (by decide) | exact ⟨_, K, b3, rfl⟩)
      case k =>
        refine ab_C_of (by decide) rfl (Nat.le_of_ble_eq_true rfl) hT ?_
        refine r_K_count_0 hT _ (by omega) (Nat.le_refl _) (Nat.le_refl _) ?_
        (and_intros <;> intro h <;> first | exact absurd h (by decide) | exact ⟨_, a, rfl⟩)
    · have a := k_centre (d := d + 13) (w := w) (n := n) (nc := nc) (ns := ns) (L := L) hT hq
      have hct : ctf (fun s => mxf (spn e1 e2 pr (net e1 e2 sd l).reverse s) S) S < S := ctf_lt _ S (by have := hq.1.2.2.1; omega)
      have a' := k_farthest (d := d + 14) (w := w) (n := n) (nc := nc) (ns := ns) (L := L) hT hq hct
      obtain ⟨r, er, a'⟩ := ab_ex a'
      refine ⟨I, kfr_refl, r, ?k, fun L n nc ns => ?m⟩
      case m =>
        rw [er]
        obtain ⟨K0, r0, c1, c2, c3⟩ := z_netNow (d := d + 12) (w := w) (n := n) (nc := nc) (ns := ns) (L := L) hT hm0
        obtain ⟨K1, b1, b3⟩ := z_centre (d := d + 11) (w := w) (n := n) (nc := nc) (ns := ns) (L := L) hT (mC_fr (mfr_nm c1) hm0)
        obtain ⟨K, d1, d3⟩ := z_farthest (d := d + 13) (w := w) (n := n) (nc := nc) (ns := ns) (L := L) hT (mC_fr b1 (mC_fr (mfr_nm c1) hm0)) c2 hct
        have f := mfr_trans d1 (mfr_trans b1 (mfr_nm c1))
        refine ⟨K, (mfr_ok f).1, (mfr_ok f).2, ?_⟩
        refine ab_C_of (by decide) rfl (Nat.le_of_ble_eq_true rfl) hT ?_
        refine r_M_count_0 hT _ (Nat.le_refl _) (Nat.le_refl _) ?_
        (and_intros <;> intro h <;> first | exact absurd h (by decide) | exact ⟨_, K0, c3, _, K1, b3, _, K, d3, rfl⟩)
      case k =>
        refine ab_C_of (by decide) rfl (Nat.le_of_ble_eq_true rfl) hT ?_
        refine r_K_count_0 hT _ (by omega) (Nat.le_refl _) (Nat.le_refl _) ?_
        (and_intros <;> intro h <;> first | exact absurd h (by decide) | exact ⟨_, a, _, a', rfl⟩)
    · obtain ⟨J, a1, a3⟩ := k_detours (d := d + 11) (w := w) (n := n) (nc := nc) (ns := ns) (L := L) hT hq
      have a1 := kx_kfr a1
      obtain ⟨r, er, a3⟩ := ab_ex a3
      refine ⟨J, a1, r, ?k, fun L n nc ns => ?m⟩
      case m =>
        rw [er]
        obtain ⟨K, b1, b3⟩ := z_detours (d := d + 11) (w := w) (n := n) (nc := nc) (ns := ns) (L := L) hT (mC_gr (mgr_c (x := 0)) (mC_kfr a1 hm))
        refine ⟨K, (mfr_ok b1).1, (mfr_ok b1).2, ?_⟩
        refine ab_C_of (by decide) rfl (Nat.le_of_ble_eq_true rfl) hT ?_
        refine r_M_count_0 hT _ (Nat.le_refl _) (Nat.le_refl _) ?_
        (and_intros <;> intro h <;> first | exact absurd h (by decide) | exact ⟨_, K, b3, rfl⟩)
      case k =>
        refine ab_C_of (by decide) rfl (Nat.le_of_ble_eq_true rfl) hT ?_
        refine r_K_count_0 hT _ (by omega) (Nat.le_refl _) (Nat.le_refl _) ?_
        (and_intros <;> intro h <;> first | exact absurd h (by decide) | exact ⟨_, J, a3, rfl⟩)
  · right
    have hne : ∀ i, i ≤ 22 → v ≠ nI i := fun i hi e => by
      subst e; rw [nI_toInt (by omega)] at hout; omega
    refine ⟨kfr_refl, ?_, fun L n nc ns => ⟨0, _, mgr_x.1, mgr_x.2, ?_⟩⟩
    · refine ab_C_of (by decide) rfl (Nat.le_of_ble_eq_true rfl) hT ?_
      refine r_K_count_0 hT _ (by omega) (Nat.le_add_right _ _) (Nat.le_add_right _ _) ?_
      (and_intros <;> intro h <;> first | exact absurd h (hne _ (by decide)) | rfl)
    · refine ab_C_of (by decide) rfl (Nat.le_of_ble_eq_true rfl) hT ?_
      refine r_M_count_0 hT _ (Nat.le_refl _) (Nat.le_refl _) ?_
      (and_intros <;> intro h <;> first | exact absurd h (hne _ (by decide)) | rfl)
end JCO
