/-! APART: the class's flow, the model's search -/
theorem iI_p1 (z : Int) : iI z + 1 = iI (z + 1) := by
  have := iI_add z 1
  rwa [show iI 1 = 1 by decide] at this
theorem iI_n1 (z : Int) : iI z + (-1) = iI (z + -1) := by
  have := iI_add z (-1)
  rwa [show iI (-1) = -1 by decide] at this
section KAQ
variable {w : ab_Wd} {d n nc ns : Nat} {I : Nat → Nat → Int32} {L : Nat → Nat → Int64}
variable {S N : Nat} {sd : Nat → Bool} {e1 e2 pr fm : Nat → Nat} {l : List Nat}
theorem flI_up {J : Nat → Nat → Int32} {c k : Nat} {g : Nat → Int} {v : Int} (h : flI J c g) : flI (ab_up J c k (iI v)) c (updI g k v) := fun j hj => by
  rw [ab_up_i]
  by_cases e : j = k
  · rw [e, pk_us, updI_at]
  · rw [pk_un e, updI_ne e]; exact h j hj
theorem k_use (hT : w.1.stackTraces = false) (hc : kC I S N sd e1 e2 pr fm l) {g : Nat → Int} {a b : Nat} {Q : List Nat} {J : Nat → Nat → Int32} {x : Int32} (hJ : ∀ c, c ≠ kx_roads_reachedBy → c ≠ kx_roads_flow → J c = I c) (hg : ∀ k, -1 ≤ g k ∧ g k ≤ 1) (hg0 : ∀ k, sd k = false → g k = 0) (hf : flI J kx_roads_flow g) (ha : a < S) (hQ : bfQ e1 e2 S sd g a Q J x) (hb : b ∈ Q) :
    ∃ J' g', (∀ c, c ≠ kx_roads_flow → J' c = J c) ∧ flI J' kx_roads_flow g' ∧ (∀ k, -1 ≤ g' k ∧ g' k ≤ 1) ∧ (∀ k, sd k = false → g' k = 0) ∧ (∀ p, phi e1 e2 g' p N = phi e1 e2 g p N + (p a - p b)) ∧ ab_U w (d + 1) mt_Roads_use [.ref kx_roads, .ref kx_now_cables, .int (nI a), .int (nI b)] J L n nc ns J' := by
  obtain ⟨⟨p1, p2, p3, p4, p5, p6, p7, p8⟩, c2, c3, c4, c5, c6⟩ := hc
  have hQ9 := nd_lt hQ.1 hQ.2.1
  have loop : ∀ i s (h : Nat → Int) (K : Nat → Nat → Int32), s + i ≤ 9 → i < Q.length → (∀ c, c ≠ kx_roads_flow → K c = J c) → flI K kx_roads_flow h → (∀ k, -1 ≤ h k ∧ h k ≤ 1) → (∀ k, sd k = false → h k = 0) → (∀ m k, 0 < m → m ≤ i → k < 24 → J kx_roads_reachedBy (Q.getD m 0) = nI k → h k = g k) →
      ∃ K' h', (∀ c, c ≠ kx_roads_flow → K' c = J c) ∧ flI K' kx_roads_flow h' ∧ (∀ k, -1 ≤ h' k ∧ h' k ≤ 1) ∧ (∀ k, sd k = false → h' k = 0) ∧ (∀ p, phi e1 e2 h' p N = phi e1 e2 h p N + (p a - p (Q.getD i 0))) ∧ ab_E w (d + 1) mt_Roads_use 6 [.ref kx_roads, .ref kx_now_cables, .int (nI a), .int (nI b), .int (nI (Q.getD i 0)), .int (nI s), .null] [] (K, L, ab_RR, n, nc, ns) (.inl none, (K', L, ab_RR, n, nc, ns)) := by
    intro i
    induction i using Nat.strongRecOn with
    | ind i ih =>
      intro s h K hs hi hK hf hb h0 hsame
      have hs10 : ¬ 10 ≤ s := by omega
      have hiS := hQ.2.1 _ (getD_mem hi)
      by_cases e : i = 0
      · subst e
        refine ⟨K, h, hK, hf, hb, h0, fun p => by rw [hQ.2.2.1]; omega, ?_⟩
        rw [hQ.2.2.1]
        refine r_Roads_use_6 hT _ _ _ _ (Nat.le_refl _) (Nat.le_refl _) ?_
        exact ⟨fun _ => rfl, fun _ => ⟨fun _ => rfl, fun e => absurd rfl e⟩⟩
      · obtain ⟨k, j, u1, u2, u3, u4, u5⟩ := hQ.2.2.2.2.2 i (by omega) hi
        have hkN := c5 k u3
        obtain ⟨q1, q2, q3, q4, q5, q6⟩ := p8 k hkN
        have hne := (c6 k hkN).2.2.2
        have hne' : ¬ e2 k = e1 k := fun h => hne h.symm
        have kf : K kx_now_cables_first k = nI (e1 k) := by rw [hK _ (by decide), hJ _ (by decide) (by decide)]; exact q1
        have ks : K kx_now_cables_second k = nI (e2 k) := by rw [hK _ (by decide), hJ _ (by decide) (by decide)]; exact q2
        have kr : K kx_roads_reachedBy (Q.getD i 0) = nI k := by rw [hK _ (by decide)]; exact u1
        have kfl := hf k u2
        have hgk := hsame i k (by omega) (Nat.le_refl _) u2 u1
        have hia : ¬ Q.getD i 0 = a := fun h9 => e (getD_inj hQ.1 hi (by omega) (by rw [hQ.2.2.1]; exact h9))
        have bk := hb k
        have keep : ∀ (v : Int) m k', 0 < m → m ≤ j → k' < 24 → J kx_roads_reachedBy (Q.getD m 0) = nI k' → updI h k v k' = g k' := by
          intro v m k' m1 m2 m3 m4
          have hkk : k' ≠ k := by
            intro ee
            subst ee
            obtain ⟨k9, j9, z1, z2, z3, z4, z5⟩ := hQ.2.2.2.2.2 m m1 (by omega)
            have e9 : k9 = k' := (nI_eq (by omega) (by omega)).mp (z1.symm.trans m4)
            subst e9
            have t1 : ∀ t, t < Q.length → Q.getD i 0 = Q.getD t 0 → i = t := fun t ht hh => getD_inj hQ.1 hi ht hh
            have w1 : Q.getD i 0 = Q.getD j9 0 ∨ Q.getD i 0 = Q.getD m 0 := by
              unfold opn at u5 z5; omega
            rcases w1 with w1 | w1
            · have := t1 j9 (by omega) w1; omega
            · have := t1 m (by omega) w1; omega
          rw [updI_ne hkk]
          exact hsame m k' m1 (by omega) m3 m4
        rcases u5 with ⟨v1, v2, v3⟩ | ⟨v1, v2, v3⟩
        · -- over the cable from its first to its second
          obtain ⟨K', h', a1, a2, a3, a4, a5, a6⟩ := ih j u4 (s + 1) (updI h k (h k + 1)) (ab_up K kx_roads_flow k (iI (h k + 1))) (by omega) (by omega) (fun c hc => by rw [ab_up_o hc]; exact hK c hc) (flI_up hf) (fun k' => by
              by_cases e9 : k' = k
              · rw [e9, updI_at]; omega
              · rw [updI_ne e9]; exact hb k') (fun k' hk' => by
              have e9 : k' ≠ k := fun e9 => by rw [e9, u3] at hk'; cases hk'
              rw [updI_ne e9]; exact h0 k' hk') (keep _)
          refine ⟨K', h', a1, a2, a3, a4, fun p => ?_, ?_⟩
          · rw [a5, phi_upd hkN, v1, v2]; omega
          · rw [v1] at a6
            rw [v2] at hia kr ⊢
            refine r_Roads_use_6 hT _ _ _ _ (Nat.le_refl _) (Nat.le_refl _) ?_
            simp (disch := first | omega | decide) only [hs10, hia, kr, kf, ks, hne, kfl, iI_p1, iI_n1, nl_add1, nl_add2, nl_mul1, nl_mul2, nl_sub1, nl_lt1, nl_lt2, nl_le1, nl_le2, nl_eq1, nl_eq2, nl_m1, nl_m2, nl_inT, nI_add, nI_mul, nI_leI, nI_ltI, nI_eq, nI_clamp, nl_bit, oI_n, oI_s, oI_m1, true_and, and_true, eq_self, Bool.false_eq_true, not_false_eq_true, not_true_eq_false, false_implies, true_implies, implies_true, forall_const, Nat.not_lt_zero, ab_row_eq, ab_row_ne, ab_up_i, ab_up_o, pk_us, pk_un, ab_row_row]
            exact a6
        · obtain ⟨K', h', a1, a2, a3, a4, a5, a6⟩ := ih j u4 (s + 1) (updI h k (h k + -1)) (ab_up K kx_roads_flow k (iI (h k + -1))) (by omega) (by omega) (fun c hc => by rw [ab_up_o hc]; exact hK c hc) (flI_up hf) (fun k' => by
              by_cases e9 : k' = k
              · rw [e9, updI_at]; omega
              · rw [updI_ne e9]; exact hb k') (fun k' hk' => by
              have e9 : k' ≠ k := fun e9 => by rw [e9, u3] at hk'; cases hk'
              rw [updI_ne e9]; exact h0 k' hk') (keep _)
          refine ⟨K', h', a1, a2, a3, a4, fun p => ?_, ?_⟩
          · rw [a5, phi_upd hkN, v1, v2]; omega
          · rw [v1] at a6
            rw [v2] at hia kr ⊢
            refine r_Roads_use_6 hT _ _ _ _ (Nat.le_refl _) (Nat.le_refl _) ?_
            simp (disch := first | omega | decide) only [hs10, hia, kr, kf, ks, hne', kfl, iI_p1, iI_n1, nl_add1, nl_add2, nl_mul1, nl_mul2, nl_sub1, nl_lt1, nl_lt2, nl_le1, nl_le2, nl_eq1, nl_eq2, nl_m1, nl_m2, nl_inT, nI_add, nI_mul, nI_leI, nI_ltI, nI_eq, nI_clamp, nl_bit, oI_n, oI_s, oI_m1, true_and, and_true, eq_self, Bool.false_eq_true, not_false_eq_true, not_true_eq_false, false_implies, true_implies, implies_true, forall_const, Nat.not_lt_zero, ab_row_eq, ab_row_ne, ab_up_i, ab_up_o, pk_us, pk_un, ab_row_row]
            exact a6
  obtain ⟨t, ht, et⟩ := List.getElem_of_mem hb
  have et' : Q.getD t 0 = b := by rw [List.getD_eq_getElem?_getD, List.getElem?_eq_getElem ht, Option.getD_some, et]
  obtain ⟨K', h', a1, a2, a3, a4, a5, a6⟩ := loop t 0 g J (by omega) ht (fun _ _ => rfl) hf hg hg0 (fun _ _ _ _ _ _ => rfl)
  rw [et'] at a5 a6
  refine ⟨K', h', a1, a2, a3, a4, a5, ?_⟩
  refine ab_C_of (by decide) rfl (Nat.le_of_ble_eq_true rfl) hT ?_
  refine r_Roads_use_0 hT _ _ (Nat.le_refl _) (Nat.le_refl _) ?_
  exact a6
theorem k_apart (hT : w.1.stackTraces = false) (hc : kC I S N sd e1 e2 pr fm l) {a b : Nat} (ha : a < S) (hb : b < S) (hab : a ≠ b) :
    ∃ (J : Nat → Nat → Int32) (m : Nat) (g : Nat → Int), (∀ c, c ≠ kx_roads_reachedBy → c ≠ kx_roads_flow → J c = I c) ∧ flw e1 e2 N sd g a b (m : Int) ∧ (cls e1 e2 sd g a b ∨ m = 24) ∧ ab_PU w (d + 3) mt_Roads_apart [.ref kx_roads, .ref kx_now_cables, .int (nI a), .int (nI b)] I L n nc ns (nI m) J := by
  have p4 := hc.1.2.2.2.1
  have p3 := hc.1.2.2.1
  have loop : ∀ (q m : Nat) (g : Nat → Int) (J : Nat → Nat → Int32), m + q = 24 → (∀ c, c ≠ kx_roads_reachedBy → c ≠ kx_roads_flow → J c = I c) → flI J kx_roads_flow g → flw e1 e2 N sd g a b (m : Int) →
      ∃ (J' : Nat → Nat → Int32) (m' : Nat) (g' : Nat → Int), (∀ c, c ≠ kx_roads_reachedBy → c ≠ kx_roads_flow → J' c = I c) ∧ flw e1 e2 N sd g' a b (m' : Int) ∧ (cls e1 e2 sd g' a b ∨ m' = 24) ∧ ab_E w ((d + 2) + 1) mt_Roads_apart 34 [.ref kx_roads, .ref kx_now_cables, .int (nI a), .int (nI b), .int (nI m)] [] (J, L, ab_RR, n, nc, ns) (.inl (some (.int (nI m'))), (J', L, ab_RR, n, nc, ns)) := by
    intro q
    induction q with
    | zero =>
      intro m g J hm hJ hf hg
      refine ⟨J, m, g, hJ, hg, Or.inr (by omega), ?_⟩
      have h24 : 24 ≤ m := by omega
      refine r_Roads_apart_34 hT _ _ _ (Nat.le_refl _) (Nat.le_refl _) ?_
      simp (disch := first | omega | decide) only [h24, nl_add1, nl_add2, nl_mul1, nl_mul2, nl_sub1, nl_lt1, nl_lt2, nl_le1, nl_le2, nl_eq1, nl_eq2, nl_m1, nl_m2, nl_inT, nI_add, nI_mul, nI_leI, nI_ltI, nI_eq, nI_clamp, nl_bit, oI_n, oI_s, oI_m1, true_and, and_true, eq_self, Bool.false_eq_true, not_false_eq_true, not_true_eq_false, false_implies, true_implies, implies_true, forall_const, Nat.not_lt_zero, ab_row_eq, ab_row_ne, ab_up_i, ab_up_o, pk_us, pk_un, ab_row_row]
    | succ q ih =>
      intro m g J hm hJ hf hg
      have h24 : ¬ 24 ≤ m := by omega
      obtain ⟨J1, r, a1, a2, a3⟩ := k_reach (w := w) (d := d) (n := n) (nc := nc) (ns := ns) (L := L) hT hc hJ hg.1 hf ha hb hab
      rcases a2 with ⟨e, Q, x, hQ, hbQ⟩ | ⟨e, hcl⟩
      · subst e
        have hJ1 : ∀ c, c ≠ kx_roads_reachedBy → c ≠ kx_roads_flow → J1 c = I c := fun c h1 h2 => (a1 c h1).trans (hJ c h1 h2)
        obtain ⟨J2, g2, b1, b2, b3, b4, b5, b6⟩ := k_use (w := w) (d := d + 1) (n := n) (nc := nc) (ns := ns) (L := L) hT hc hJ1 hg.1 hg.2.1 (fun k hk => by rw [a1 _ (by decide)]; exact hf k hk) ha hQ hbQ
        obtain ⟨J', m', g', c1, c2, c3, c4⟩ := ih (m + 1) g2 J2 (by omega) (fun c h1 h2 => (b1 c h2).trans (hJ1 c h1 h2)) b2 ⟨b3, b4, fun p => by
          rw [b5, hg.2.2 p]
          have : ((m + 1 : Nat) : Int) = (m : Int) + 1 := by omega
          rw [this, Int.add_mul]; omega⟩
        refine ⟨J', m', g', c1, c2, c3, ?_⟩
        refine r_Roads_apart_34 hT _ _ _ (Nat.le_refl _) (Nat.le_refl _) ?_
        simp (disch := first | omega | decide) only [h24, nl_add1, nl_add2, nl_mul1, nl_mul2, nl_sub1, nl_lt1, nl_lt2, nl_le1, nl_le2, nl_eq1, nl_eq2, nl_m1, nl_m2, nl_inT, nI_add, nI_mul, nI_leI, nI_ltI, nI_eq, nI_clamp, nl_bit, oI_n, oI_s, oI_m1, true_and, and_true, eq_self, Bool.false_eq_true, not_false_eq_true, not_true_eq_false, false_implies, true_implies, implies_true, forall_const, Nat.not_lt_zero, ab_row_eq, ab_row_ne, ab_up_i, ab_up_o, pk_us, pk_un, ab_row_row]
        exact ⟨_, J1, a3, fun e => absurd e (by decide), fun _ => ⟨J2, b6, c4⟩⟩
      · subst e
        refine ⟨J1, m, g, fun c h1 h2 => (a1 c h1).trans (hJ c h1 h2), hg, Or.inl hcl, ?_⟩
        refine r_Roads_apart_34 hT _ _ _ (Nat.le_refl _) (Nat.le_refl _) ?_
        simp (disch := first | omega | decide) only [h24, nl_add1, nl_add2, nl_mul1, nl_mul2, nl_sub1, nl_lt1, nl_lt2, nl_le1, nl_le2, nl_eq1, nl_eq2, nl_m1, nl_m2, nl_inT, nI_add, nI_mul, nI_leI, nI_ltI, nI_eq, nI_clamp, nl_bit, oI_n, oI_s, oI_m1, true_and, and_true, eq_self, Bool.false_eq_true, not_false_eq_true, not_true_eq_false, false_implies, true_implies, implies_true, forall_const, Nat.not_lt_zero, ab_row_eq, ab_row_ne, ab_up_i, ab_up_o, pk_us, pk_un, ab_row_row]
        exact ⟨_, J1, a3, fun _ => rfl, fun e => absurd rfl e⟩
  have start : ∀ m i (J : Nat → Nat → Int32), i + m = 24 → (∀ c, c ≠ kx_roads_reachedBy → c ≠ kx_roads_flow → J c = I c) → (∀ k, k < i → J kx_roads_flow k = 0) →
      ∃ (J' : Nat → Nat → Int32) (m' : Nat) (g' : Nat → Int), (∀ c, c ≠ kx_roads_reachedBy → c ≠ kx_roads_flow → J' c = I c) ∧ flw e1 e2 N sd g' a b (m' : Int) ∧ (cls e1 e2 sd g' a b ∨ m' = 24) ∧ ab_E w ((d + 2) + 1) mt_Roads_apart 10 [.ref kx_roads, .ref kx_now_cables, .int (nI a), .int (nI b), .int (nI i)] [] (J, L, ab_RR, n, nc, ns) (.inl (some (.int (nI m'))), (J', L, ab_RR, n, nc, ns)) := by
    intro m
    induction m with
    | zero =>
      intro i J hi hJ hf
      obtain ⟨J', m', g', c1, c2, c3, c4⟩ := loop 24 0 (fun _ => 0) J (by omega) hJ (fun k hk => hf k (by omega)) ⟨fun _ => by simp, fun _ _ => rfl, fun p => by rw [phi_0]; simp⟩
      refine ⟨J', m', g', c1, c2, c3, ?_⟩
      have h24 : 24 ≤ i := by omega
      refine r_Roads_apart_10 hT _ _ _ (Nat.le_refl _) (Nat.le_refl _) ?_
      simp (disch := first | omega | decide) only [h24, nl_add1, nl_add2, nl_mul1, nl_mul2, nl_sub1, nl_lt1, nl_lt2, nl_le1, nl_le2, nl_eq1, nl_eq2, nl_m1, nl_m2, nl_inT, nI_add, nI_mul, nI_leI, nI_ltI, nI_eq, nI_clamp, nl_bit, oI_n, oI_s, oI_m1, true_and, and_true, eq_self, Bool.false_eq_true, not_false_eq_true, not_true_eq_false, false_implies, true_implies, implies_true, forall_const, Nat.not_lt_zero, ab_row_eq, ab_row_ne, ab_up_i, ab_up_o, pk_us, pk_un, ab_row_row]
      exact c4
    | succ m ih =>
      intro i J hi hJ hf
      obtain ⟨J', m', g', c1, c2, c3, c4⟩ := ih (i + 1) (ab_up J kx_roads_flow i 0) (by omega) (fun c h1 h2 => by rw [ab_up_o h2]; exact hJ c h1 h2) (fun k hk => by
        rw [ab_up_i]
        by_cases e : k = i
        · rw [e, pk_us]
        · rw [pk_un e]; exact hf k (by omega))
      refine ⟨J', m', g', c1, c2, c3, ?_⟩
      have h24 : ¬ 24 ≤ i := by omega
      refine r_Roads_apart_10 hT _ _ _ (Nat.le_refl _) (Nat.le_refl _) ?_
      simp (disch := first | omega | decide) only [h24, nl_add1, nl_add2, nl_mul1, nl_mul2, nl_sub1, nl_lt1, nl_lt2, nl_le1, nl_le2, nl_eq1, nl_eq2, nl_m1, nl_m2, nl_inT, nI_add, nI_mul, nI_leI, nI_ltI, nI_eq, nI_clamp, nl_bit, oI_n, oI_s, oI_m1, true_and, and_true, eq_self, Bool.false_eq_true, not_false_eq_true, not_true_eq_false, false_implies, true_implies, implies_true, forall_const, Nat.not_lt_zero, ab_row_eq, ab_row_ne, ab_up_i, ab_up_o, pk_us, pk_un, ab_row_row]
      exact c4
  obtain ⟨J', m', g', c1, c2, c3, c4⟩ := start 24 0 I (by omega) (fun _ _ _ => rfl) (fun k hk => absurd hk (Nat.not_lt_zero k))
  refine ⟨J', m', g', c1, c2, c3, ?_⟩
  have hne : ¬ nI a = nI b := fun e => hab ((nI_eq (by omega) (by omega)).mp e)
  refine ab_C_of (by decide) rfl (Nat.le_of_ble_eq_true rfl) hT ?_
  refine r_Roads_apart_0 hT _ _ (Nat.le_refl _) (Nat.le_refl _) ?_
  exact ⟨fun _ => c4, fun e => absurd e hne⟩
theorem k_apart0 (hT : w.1.stackTraces = false) {v : Int32} : ab_P w (d + 3) mt_Roads_apart [.ref kx_roads, .ref kx_now_cables, .int v, .int v] I L n nc ns 0 := by
  refine ab_C_of (by decide) rfl (Nat.le_of_ble_eq_true rfl) hT ?_
  refine r_Roads_apart_0 hT _ _ (Nat.le_refl _) (Nat.le_refl _) ?_
  exact ⟨fun h => absurd rfl h, fun _ => rfl⟩
/-! the model -/
def metM (J : Nat → Nat → Int32) (S : Nat) (M : Nat → Bool) : Prop := ∀ x, x < S → J mx_metSites x = if M x = true then 1 else 0
def afr (J I : Nat → Nat → Int32) : Prop := ∀ c, c ≠ mx_metSites → c ≠ mx_gone → J c = I c
theorem iI_eq1 {z : Int} (h : -1 ≤ z ∧ z ≤ 1) : (iI z = 1 ↔ ¬ z < 1) ∧ (iI z = -1 ↔ ¬ -1 < z) := by
  rcases iI_1 h with e | e | e <;> subst e <;> decide
theorem nar1 : vp_nar .boolean 1 = 1 := by decide
theorem nar0 : vp_nar .boolean 0 = 0 := by decide
theorem z_finds (hT : w.1.stackTraces = false) (hm : mC I S N sd e1 e2 pr fm l) {b : Nat} (hb : b < S) : ∀ u s (M : Nat → Bool) (J : Nat → Nat → Int32) (g : Nat → Int), fa_cnt (fun x => !M x) S ≤ u → s < S → M s = false → M b = false → afr J I → metM J S M → flI J mx_gone g → (∀ k, -1 ≤ g k ∧ g k ≤ 1) → (∀ k, sd k = false → g k = 0) →
    ∃ (J' : Nat → Nat → Int32) (M' : Nat → Bool) (g' : Nat → Int) (r : Int32), afr J' I ∧ metM J' S M' ∧ flI J' mx_gone g' ∧ (∀ x, M x = true → M' x = true) ∧ M' s = true ∧ ((r = 1 ∧ (∀ k, -1 ≤ g' k ∧ g' k ≤ 1) ∧ (∀ k, sd k = false → g' k = 0) ∧ (∀ p, phi e1 e2 g' p N = phi e1 e2 g p N + (p s - p b)) ∧ (∀ k, M (e1 k) = true ∨ M (e2 k) = true → g' k = g k)) ∨ (r = 0 ∧ g' = g ∧ M' b = false ∧ ∀ x, M' x = true → M x = false → ∀ k y, sd k = true → opn e1 e2 g k x y → M' y = true)) ∧
    ab_PU w (d + u) mt_M_finds [.ref mx, .int (nI s), .int (nI b), .ref mx_metSites] J L n nc ns r J' := by
  obtain ⟨⟨p1, p2, p3, p4, p5, p6⟩, m2, m3, m4, m5⟩ := hm
  intro u
  induction u with
  | zero =>
    intro s M J g hu hs hMs
    have := cnt_pos (p := fun x => !M x) hs (by simp [hMs])
    omega
  | succ u ihu =>
    intro s M J g hu hs hMs hMb hJ hmet hf hg hg0
    -- s is met
    generalize hM1 : (fun x => decide (x = s) || M x) = M1
    have m1s : M1 s = true := by rw [← hM1]; simp
    have m1M : ∀ x, M x = true → M1 x = true := fun x hx => by rw [← hM1]; simp [hx]
    have m1o : ∀ x, x ≠ s → M1 x = M x := fun x hx => by rw [← hM1]; simp [hx]
    have hu1 : fa_cnt (fun x => !M1 x) S ≤ u := by
      have := cnt_lt (p := fun x => !M1 x) (q := fun x => !M x) (a := s) (n := S) (fun k _ hk => by
        cases hh : M k with
        | false => rfl
        | true => rw [m1M k hh] at hk; cases hk) hs (by simp [hMs]) (by simp [m1s])
      omega
    have met1 : metM (ab_up J mx_metSites s 1) S M1 := fun x hx => by
      rw [ab_up_i]
      by_cases e : x = s
      · rw [e, pk_us, if_pos m1s]
      · rw [pk_un e, m1o x e]; exact hmet x hx
    generalize hR : (fun (J' : Nat → Nat → Int32) (r : Int32) => ∃ (M' : Nat → Bool) (g' : Nat → Int), afr J' I ∧ metM J' S M' ∧ flI J' mx_gone g' ∧ (∀ x, M x = true → M' x = true) ∧ M' s = true ∧ ((r = 1 ∧ (∀ k, -1 ≤ g' k ∧ g' k ≤ 1) ∧ (∀ k, sd k = false → g' k = 0) ∧ (∀ p, phi e1 e2 g' p N = phi e1 e2 g p N + (p s - p b)) ∧ (∀ k, M (e1 k) = true ∨ M (e2 k) = true → g' k = g k)) ∨ (r = 0 ∧ g' = g ∧ M' b = false ∧ ∀ x, M' x = true → M x = false → ∀ k y, sd k = true → opn e1 e2 g k x y → M' y = true))) = R
    by_cases hsb : s = b
    · -- it is there
      subst hsb
      refine ⟨ab_up J mx_metSites s 1, M1, g, 1, fun c h1 h2 => by rw [ab_up_o h1]; exact hJ c h1 h2, met1, fun k hk => by rw [ab_up_o (by decide)]; exact hf k hk, m1M, m1s, Or.inl ⟨rfl, hg, hg0, fun p => by omega, fun _ _ => rfl⟩, ?_⟩
      have z : ab_E w ((d + u) + 1) mt_M_finds 7 [.ref mx, .int (nI s), .int (nI s), .ref mx_metSites, .int 0, .null, .null] [] ((ab_up J mx_metSites s 1), L, ab_RR, n, nc, ns) (.inl (some (.int 1)), (ab_up J mx_metSites s 1, L, ab_RR, n, nc, ns)) := by
        refine r_M_finds_7 hT _ _ _ (Nat.le_refl _) (Nat.le_refl _) ?_
        exact ⟨fun _ => ⟨fun h => absurd rfl h, fun _ => rfl⟩, fun _ => ⟨fun _ => ⟨fun h => absurd rfl h, fun _ => rfl⟩, fun h => absurd rfl h⟩⟩
      refine ab_C_of (by decide) rfl (Nat.le_of_ble_eq_true rfl) hT ?_
      refine r_M_finds_0 hT _ _ (Nat.le_refl _) (Nat.le_refl _) ?_
      simp (disch := first | omega | decide) only [nar1, nl_add1, nl_add2, nl_mul1, nl_mul2, nl_sub1, nl_lt1, nl_lt2, nl_le1, nl_le2, nl_eq1, nl_eq2, nl_m1, nl_m2, nl_inT, nI_add, nI_mul, nI_leI, nI_ltI, nI_eq, nI_clamp, nl_bit, oI_n, oI_s, oI_m1, true_and, and_true, eq_self, Bool.false_eq_true, not_false_eq_true, not_true_eq_false, false_implies, true_implies, implies_true, forall_const, Nat.not_lt_zero, ab_row_eq, ab_row_ne, ab_up_i, ab_up_o, pk_us, pk_un, ab_row_row]
      exact z
    · have hsb' : ¬ nI s = nI b := fun e => hsb ((nI_eq (by omega) (by omega)).mp e)
      have loop : ∀ q k (M2 : Nat → Bool) (J : Nat → Nat → Int32), k + q = N → fa_cnt (fun x => !M2 x) S ≤ u → (∀ x, M1 x = true → M2 x = true) → M2 b = false → afr J I → metM J S M2 → flI J mx_gone g → (∀ x, M2 x = true → M1 x = false → ∀ k y, sd k = true → opn e1 e2 g k x y → M2 y = true) → (∀ j y, j < k → sd j = true → opn e1 e2 g j s y → M2 y = true) →
          ∃ J' r, R J' r ∧ ab_E w ((d + u) + 1) mt_M_finds 7 [.ref mx, .int (nI s), .int (nI b), .ref mx_metSites, .int (nI k), .null, .null] [] (J, L, ab_RR, n, nc, ns) (.inl (some (.int r)), (J', L, ab_RR, n, nc, ns)) := by
        intro q
        induction q with
        | zero =>
          intro k M2 J hk hu2 h12 h2b hJ hmet hf hcl hcs
          have e : k = N := by omega
          subst e
          refine ⟨J, 0, ?_, ?_⟩
          · rw [← hR]
            refine ⟨M2, g, hJ, hmet, hf, fun x hx => h12 x (m1M x hx), h12 s m1s, Or.inr ⟨rfl, rfl, h2b, fun x hx hMx j y hj ho => ?_⟩⟩
            by_cases e : x = s
            · rw [e] at ho; exact hcs j y (m4 j hj) hj ho
            · exact hcl x hx (by rw [m1o x e]; exact hMx) j y hj ho
          · have r2 : J mx_now 0 = nI k := by rw [hJ _ (by decide) (by decide)]; exact p2
            refine r_M_finds_7 hT _ _ _ (Nat.le_refl _) (Nat.le_refl _) ?_
            refine bb_t (by rw [r2]; exact nI_le (Nat.le_refl _) (by omega)) ⟨fun _ => rfl, fun h => absurd h hsb'⟩
        | succ q ihq =>
          intro k M2 J hk hu2 h12 h2b hJ hmet hf hcl hcs
          have hnow : J mx_now = I mx_now := hJ _ (by decide) (by decide)
          obtain ⟨q1, q2, q3, q4, q5, q6⟩ := p6 k (by omega)
          have hne := (m5 k (by omega)).2.2.2
          rw [← hnow] at q1 q2
          have r2 : J mx_now 0 = nI N := by rw [hnow]; exact p2
          have hkN : ¬ N ≤ k := by omega
          have hsk := m3 k (by omega)
          rw [← hnow] at hsk
          have gk := hf k (by omega)
          obtain ⟨f1, f2⟩ := iI_eq1 (hg k)
          -- on to the next cable
          have next : (∀ y, sd k = true → opn e1 e2 g k s y → M2 y = true) → ∃ J' r, R J' r ∧ ab_E w ((d + u) + 1) mt_M_finds 7 [.ref mx, .int (nI s), .int (nI b), .ref mx_metSites, .int (nI (k + 1)), .null, .null] [] (J, L, ab_RR, n, nc, ns) (.inl (some (.int r)), (J', L, ab_RR, n, nc, ns)) := fun hn => ihq (k + 1) M2 J (by omega) hu2 h12 h2b hJ hmet hf hcl (fun j y hj hsj ho => by
            by_cases e : j = k
            · rw [e] at ho hsj; exact hn y hsj ho
            · exact hcs j y (by omega) hsj ho)
          -- over the cable, by v
          have over : ∀ (o : Nat) (v : Int), o < S → M2 o = false → sd k = true → (v = 1 ∨ v = -1) → (-1 ≤ g k + v ∧ g k + v ≤ 1) → (∀ y, opn e1 e2 g k s y → y = o) → (∀ p : Nat → Int, v * (p (e1 k) - p (e2 k)) = p s - p o) → ((e1 k = s ∧ e2 k = o) ∨ (e1 k = o ∧ e2 k = s)) →
              ∃ J' r, R J' r ∧ ∃ (r1 : Int32) (J1 : Nat → Nat → Int32), ab_C w (d + u) mt_M_finds [.ref mx, .int (nI o), .int (nI b), .ref mx_metSites] (J, L, ab_RR, n, nc, ns) (.inl (some (.int r1)), (J1, L, ab_RR, n, nc, ns)) ∧ (¬ r1 = 0 → ((.inl (some (.int r)), (J', L, ab_RR, n, nc, ns)) : ab_Re) = (.inl (some (.int 1)), ((ab_up J1 mx_gone k (J1 mx_gone k + iI v)), L, ab_RR, n, nc, ns))) ∧ (r1 = 0 → ab_E w ((d + u) + 1) mt_M_finds 7 [.ref mx, .int (nI s), .int (nI b), .ref mx_metSites, .int (nI (k + 1)), .null, .null] [] (J1, L, ab_RR, n, nc, ns) (.inl (some (.int r)), (J', L, ab_RR, n, nc, ns))) := by
            intro o v ho hMo hsd hv hbd hyo hph hends
            obtain ⟨J1, M3, g3, r1, x1, x2, x3, x4, x5, x6, x7⟩ := ihu o M2 J g hu2 ho hMo h2b hJ hmet hf hg hg0
            rcases x6 with ⟨e, y1, y2, y3, y4⟩ | ⟨e, y1, y2, y3⟩
            · subst e
              have hs2 := h12 s m1s
              have hgk : g3 k = g k := y4 k (by rcases hends with ⟨h1, -⟩ | ⟨-, h1⟩ <;> rw [h1] <;> simp [hs2])
              refine ⟨ab_up J1 mx_gone k (J1 mx_gone k + iI v), 1, ?_, 1, J1, x7, fun _ => rfl, fun h => absurd h (by decide)⟩
              rw [← hR]
              have e9 : J1 mx_gone k + iI v = iI (g3 k + v) := by rw [x3 k (by omega), iI_add]
              rw [e9]
              refine ⟨M3, updI g3 k (g3 k + v), fun c h1 h2 => by rw [ab_up_o h2]; exact x1 c h1 h2, fun x hx => by rw [ab_up_o (by decide)]; exact x2 x hx, flI_up x3, fun x hx => x4 x (h12 x (m1M x hx)), x4 s hs2, Or.inl ⟨rfl, fun j => ?_, fun j hj => ?_, fun p => ?_, fun j hj => ?_⟩⟩
              · by_cases e : j = k
                · rw [e, updI_at, hgk]; exact hbd
                · rw [updI_ne e]; exact y1 j
              · have e : j ≠ k := fun e => by rw [e, hsd] at hj; cases hj
                rw [updI_ne e]; exact y2 j hj
              · rw [phi_upd (by omega), y3, hph]; omega
              · have e : j ≠ k := fun e => by
                  rw [e] at hj
                  have hMo' : M o = false := by
                    cases hh : M o with
                    | false => rfl
                    | true => rw [h12 o (m1M o hh)] at hMo; cases hMo
                  rcases hends with ⟨h1, h2⟩ | ⟨h1, h2⟩ <;> rw [h1, h2] at hj <;> simp [hMs, hMo'] at hj
                rw [updI_ne e]
                exact y4 j (hj.imp (fun h => h12 _ (m1M _ h)) (fun h => h12 _ (m1M _ h)))
            · subst e
              subst y1
              obtain ⟨J', r, z1, z2⟩ := ihq (k + 1) M3 J1 (by omega) (by
                have : ∀ n, fa_cnt (fun x => !M3 x) n ≤ fa_cnt (fun x => !M2 x) n := by
                  intro n
                  induction n with
                  | zero => exact Nat.le_refl _
                  | succ n ih =>
                    cases h3 : M3 n with
                    | true => rw [fa_cnt_no (p := fun x => !M3 x) (by simp [h3])]; cases h2 : M2 n with
                      | true => rw [fa_cnt_no (p := fun x => !M2 x) (by simp [h2])]; exact ih
                      | false => rw [fa_cnt_yes (p := fun x => !M2 x) (by simp [h2])]; omega
                    | false =>
                      have h2 : M2 n = false := by
                        cases hh : M2 n with
                        | false => rfl
                        | true => rw [x4 n hh] at h3; cases h3
                      rw [fa_cnt_yes (p := fun x => !M3 x) (by simp [h3]), fa_cnt_yes (p := fun x => !M2 x) (by simp [h2])]; omega
                have := this S
                omega) (fun x hx => x4 x (h12 x hx)) y2 x1 x2 x3 (fun x hx hx1 j y hj ho => by
                  cases hh : M2 x with
                  | true => exact x4 y (hcl x hh hx1 j y hj ho)
                  | false => exact y3 x hx hh j y hj ho) (fun j y hj hsj ho => by
                  by_cases e : j = k
                  · rw [e] at ho; rw [hyo y ho]; exact x5
                  · exact x4 y (hcs j y (by omega) hsj ho))
              exact ⟨J', r, z1, 0, J1, x7, fun h => absurd rfl h, fun _ => z2⟩
          by_cases hs' : sd k = true
          · by_cases h1 : e1 k = s
            · have ne2 : ¬ e2 k = s := fun h => hne (h1.trans h.symm)
              have met2 := hmet _ q5
              have only : ∀ y, opn e1 e2 g k s y → y = e2 k ∧ g k < 1 := fun y ho => by unfold opn at ho; omega
              cases hM : M2 (e2 k) with
              | true =>
                obtain ⟨J', r, z1, z2⟩ := next (fun y _ ho => by rw [(only y ho).1]; exact hM)
                refine ⟨J', r, z1, ?_⟩
                rw [hM] at met2
                simp only [if_true] at met2
                refine r_M_finds_7 hT _ _ _ (Nat.le_refl _) (Nat.le_refl _) ?_
                simp (disch := first | omega | decide) only [r2, hkN, hsb', hsk, hs', q1, q2, h1, met2, nl_add1, nl_add2, nl_mul1, nl_mul2, nl_sub1, nl_lt1, nl_lt2, nl_le1, nl_le2, nl_eq1, nl_eq2, nl_m1, nl_m2, nl_inT, nI_add, nI_mul, nI_leI, nI_ltI, nI_eq, nI_clamp, nl_bit, oI_n, oI_s, oI_m1, true_and, and_true, eq_self, Bool.false_eq_true, not_false_eq_true, not_true_eq_false, false_implies, true_implies, implies_true, forall_const, Nat.not_lt_zero, ab_row_eq, ab_row_ne, ab_up_i, ab_up_o, pk_us, pk_un, ab_row_row]
                exact ⟨fun _ => z2, fun h => absurd h (by decide)⟩
              | false =>
                rw [hM] at met2
                simp only [Bool.false_eq_true, if_false] at met2
                by_cases ho : g k < 1
                · have hgk := hg k
                  obtain ⟨J', r, z1, r1, J1, z2, z3, z4⟩ := over (e2 k) 1 q5 hM hs' (Or.inl rfl) (by omega) (fun y hy => (only y hy).1) (fun p => by rw [h1]; omega) (Or.inl ⟨h1, rfl⟩)
                  refine ⟨J', r, z1, ?_⟩
                  have e8 : iI 1 = 1 := by decide
                  rw [e8] at z3
                  refine r_M_finds_7 hT _ _ _ (Nat.le_refl _) (Nat.le_refl _) ?_
                  simp (disch := first | omega | decide) only [r2, hkN, hsb', hsk, hs', q1, q2, h1, met2, gk, f1, ho, nl_add1, nl_add2, nl_mul1, nl_mul2, nl_sub1, nl_lt1, nl_lt2, nl_le1, nl_le2, nl_eq1, nl_eq2, nl_m1, nl_m2, nl_inT, nI_add, nI_mul, nI_leI, nI_ltI, nI_eq, nI_clamp, nl_bit, oI_n, oI_s, oI_m1, true_and, and_true, eq_self, Bool.false_eq_true, not_false_eq_true, not_true_eq_false, false_implies, true_implies, implies_true, forall_const, Nat.not_lt_zero, ab_row_eq, ab_row_ne, ab_up_i, ab_up_o, pk_us, pk_un, ab_row_row]
                  exact ⟨r1, J1, z2, z3, z4⟩
                · obtain ⟨J', r, z1, z2⟩ := next (fun y _ hy => absurd (only y hy).2 ho)
                  refine ⟨J', r, z1, ?_⟩
                  refine r_M_finds_7 hT _ _ _ (Nat.le_refl _) (Nat.le_refl _) ?_
                  simp (disch := first | omega | decide) only [r2, hkN, hsb', hsk, hs', q1, q2, h1, met2, gk, f1, ho, nl_add1, nl_add2, nl_mul1, nl_mul2, nl_sub1, nl_lt1, nl_lt2, nl_le1, nl_le2, nl_eq1, nl_eq2, nl_m1, nl_m2, nl_inT, nI_add, nI_mul, nI_leI, nI_ltI, nI_eq, nI_clamp, nl_bit, oI_n, oI_s, oI_m1, true_and, and_true, eq_self, Bool.false_eq_true, not_false_eq_true, not_true_eq_false, false_implies, true_implies, implies_true, forall_const, Nat.not_lt_zero, ab_row_eq, ab_row_ne, ab_up_i, ab_up_o, pk_us, pk_un, ab_row_row]
                  exact z2
            · by_cases h2 : e2 k = s
              · have met2 := hmet _ q4
                have only : ∀ y, opn e1 e2 g k s y → y = e1 k ∧ -1 < g k := fun y ho => by unfold opn at ho; omega
                cases hM : M2 (e1 k) with
                | true =>
                  obtain ⟨J', r, z1, z2⟩ := next (fun y _ ho => by rw [(only y ho).1]; exact hM)
                  refine ⟨J', r, z1, ?_⟩
                  rw [hM] at met2
                  simp only [if_true] at met2
                  refine r_M_finds_7 hT _ _ _ (Nat.le_refl _) (Nat.le_refl _) ?_
                  simp (disch := first | omega | decide) only [r2, hkN, hsb', hsk, hs', q1, q2, h1, h2, met2, nl_add1, nl_add2, nl_mul1, nl_mul2, nl_sub1, nl_lt1, nl_lt2, nl_le1, nl_le2, nl_eq1, nl_eq2, nl_m1, nl_m2, nl_inT, nI_add, nI_mul, nI_leI, nI_ltI, nI_eq, nI_clamp, nl_bit, oI_n, oI_s, oI_m1, true_and, and_true, eq_self, Bool.false_eq_true, not_false_eq_true, not_true_eq_false, false_implies, true_implies, implies_true, forall_const, Nat.not_lt_zero, ab_row_eq, ab_row_ne, ab_up_i, ab_up_o, pk_us, pk_un, ab_row_row]
                  exact ⟨fun _ => z2, fun h => absurd h (by decide)⟩
                | false =>
                  rw [hM] at met2
                  simp only [Bool.false_eq_true, if_false] at met2
                  by_cases ho : -1 < g k
                  · have hgk := hg k
                    obtain ⟨J', r, z1, r1, J1, z2, z3, z4⟩ := over (e1 k) (-1) q4 hM hs' (Or.inr rfl) (by omega) (fun y hy => (only y hy).1) (fun p => by rw [h2]; omega) (Or.inr ⟨rfl, h2⟩)
                    refine ⟨J', r, z1, ?_⟩
                    have e8 : iI (-1) = -1 := by decide
                    rw [e8] at z3
                    refine r_M_finds_7 hT _ _ _ (Nat.le_refl _) (Nat.le_refl _) ?_
                    simp (disch := first | omega | decide) only [r2, hkN, hsb', hsk, hs', q1, q2, h1, h2, met2, gk, f2, ho, nl_add1, nl_add2, nl_mul1, nl_mul2, nl_sub1, nl_lt1, nl_lt2, nl_le1, nl_le2, nl_eq1, nl_eq2, nl_m1, nl_m2, nl_inT, nI_add, nI_mul, nI_leI, nI_ltI, nI_eq, nI_clamp, nl_bit, oI_n, oI_s, oI_m1, true_and, and_true, eq_self, Bool.false_eq_true, not_false_eq_true, not_true_eq_false, false_implies, true_implies, implies_true, forall_const, Nat.not_lt_zero, ab_row_eq, ab_row_ne, ab_up_i, ab_up_o, pk_us, pk_un, ab_row_row]
                    exact ⟨r1, J1, z2, z3, z4⟩
                  · obtain ⟨J', r, z1, z2⟩ := next (fun y _ hy => absurd (only y hy).2 ho)
                    refine ⟨J', r, z1, ?_⟩
                    refine r_M_finds_7 hT _ _ _ (Nat.le_refl _) (Nat.le_refl _) ?_
                    simp (disch := first | omega | decide) only [r2, hkN, hsb', hsk, hs', q1, q2, h1, h2, met2, gk, f2, ho, nl_add1, nl_add2, nl_mul1, nl_mul2, nl_sub1, nl_lt1, nl_lt2, nl_le1, nl_le2, nl_eq1, nl_eq2, nl_m1, nl_m2, nl_inT, nI_add, nI_mul, nI_leI, nI_ltI, nI_eq, nI_clamp, nl_bit, oI_n, oI_s, oI_m1, true_and, and_true, eq_self, Bool.false_eq_true, not_false_eq_true, not_true_eq_false, false_implies, true_implies, implies_true, forall_const, Nat.not_lt_zero, ab_row_eq, ab_row_ne, ab_up_i, ab_up_o, pk_us, pk_un, ab_row_row]
                    exact z2
              · obtain ⟨J', r, z1, z2⟩ := next (fun y _ hy => by unfold opn at hy; omega)
                refine ⟨J', r, z1, ?_⟩
                refine r_M_finds_7 hT _ _ _ (Nat.le_refl _) (Nat.le_refl _) ?_
                simp (disch := first | omega | decide) only [r2, hkN, hsb', hsk, hs', q1, q2, h1, h2, nl_add1, nl_add2, nl_mul1, nl_mul2, nl_sub1, nl_lt1, nl_lt2, nl_le1, nl_le2, nl_eq1, nl_eq2, nl_m1, nl_m2, nl_inT, nI_add, nI_mul, nI_leI, nI_ltI, nI_eq, nI_clamp, nl_bit, oI_n, oI_s, oI_m1, true_and, and_true, eq_self, Bool.false_eq_true, not_false_eq_true, not_true_eq_false, false_implies, true_implies, implies_true, forall_const, Nat.not_lt_zero, ab_row_eq, ab_row_ne, ab_up_i, ab_up_o, pk_us, pk_un, ab_row_row]
                exact z2
          · obtain ⟨J', r, z1, z2⟩ := next (fun y h _ => absurd h hs')
            refine ⟨J', r, z1, ?_⟩
            refine r_M_finds_7 hT _ _ _ (Nat.le_refl _) (Nat.le_refl _) ?_
            simp (disch := first | omega | decide) only [r2, hkN, hsb', hsk, hs', q1, nl_add1, nl_add2, nl_mul1, nl_mul2, nl_sub1, nl_lt1, nl_lt2, nl_le1, nl_le2, nl_eq1, nl_eq2, nl_m1, nl_m2, nl_inT, nI_add, nI_mul, nI_leI, nI_ltI, nI_eq, nI_clamp, nl_bit, oI_n, oI_s, oI_m1, true_and, and_true, eq_self, Bool.false_eq_true, not_false_eq_true, not_true_eq_false, false_implies, true_implies, implies_true, forall_const, Nat.not_lt_zero, ab_row_eq, ab_row_ne, ab_up_i, ab_up_o, pk_us, pk_un, ab_row_row]
            exact ⟨fun _ => z2, fun _ => z2⟩
      obtain ⟨J', r, z1, z2⟩ := loop N 0 M1 (ab_up J mx_metSites s 1) (by omega) hu1 (fun _ h => h) (by rw [m1o b (fun e => hsb e.symm)]; exact hMb) (fun c h1 h2 => by rw [ab_up_o h1]; exact hJ c h1 h2) met1 (fun k hk => by rw [ab_up_o (by decide)]; exact hf k hk) (fun x h1 h2 => by rw [h1] at h2; cases h2) (fun j y hj => absurd hj (Nat.not_lt_zero j))
      rw [← hR] at z1
      obtain ⟨M', g', z3, z4, z5, z6, z7, z8⟩ := z1
      refine ⟨J', M', g', r, z3, z4, z5, z6, z7, z8, ?_⟩
      refine ab_C_of (by decide) rfl (Nat.le_of_ble_eq_true rfl) hT ?_
      refine r_M_finds_0 hT _ _ (Nat.le_refl _) (Nat.le_refl _) ?_
      simp (disch := first | omega | decide) only [nar1, nl_add1, nl_add2, nl_mul1, nl_mul2, nl_sub1, nl_lt1, nl_lt2, nl_le1, nl_le2, nl_eq1, nl_eq2, nl_m1, nl_m2, nl_inT, nI_add, nI_mul, nI_leI, nI_ltI, nI_eq, nI_clamp, nl_bit, oI_n, oI_s, oI_m1, true_and, and_true, eq_self, Bool.false_eq_true, not_false_eq_true, not_true_eq_false, false_implies, true_implies, implies_true, forall_const, Nat.not_lt_zero, ab_row_eq, ab_row_ne, ab_up_i, ab_up_o, pk_us, pk_un, ab_row_row]
      exact z2
end KAQ
