/-! THE CLASS: measure, shortest, detours -/
def mtS (e1 e2 pr : Nat → Nat) (E : Nat → Prop) (S : Nat) (J : Nat → Nat → Int32) (F : Nat → Nat → Nat) : Prop := ∀ x y, x < S → y < S → J kx_roads_lengths (x * 10 + y) = nI (F x y) ∧ vok e1 e2 pr E x y (F x y)
def uu2 (F : Nat → Nat → Nat) (a b v : Nat) : Nat → Nat → Nat := fun x y => if x = a ∧ y = b then v else F x y
theorem uu_at (F : Nat → Nat → Nat) (a b v : Nat) : uu2 F a b v a b = v := if_pos ⟨rfl, rfl⟩
theorem uu_ne {F : Nat → Nat → Nat} {a b v x y : Nat} (h : ¬ (x = a ∧ y = b)) : uu2 F a b v x y = F x y := if_neg h
theorem uu_le {F : Nat → Nat → Nat} {a b v x y : Nat} (h : v ≤ F a b) : uu2 F a b v x y ≤ F x y := by
  by_cases e : x = a ∧ y = b
  · rw [e.1, e.2, uu_at]; exact h
  · rw [uu_ne e]; exact Nat.le_refl _
theorem mtS_up {e1 e2 pr : Nat → Nat} {E : Nat → Prop} {S a b v : Nat} {J : Nat → Nat → Int32} {F : Nat → Nat → Nat} (h : mtS e1 e2 pr E S J F) (ha : a < S) (hb : b < S) (hS : S ≤ 10) (hv : vok e1 e2 pr E a b v) : mtS e1 e2 pr E S (ab_up J kx_roads_lengths (a * 10 + b) (nI v)) (uu2 F a b v) := fun x y hx hy => by
  rw [ab_up_i]
  by_cases e : x = a ∧ y = b
  · rw [e.1, e.2, pk_us, uu_at]; exact ⟨rfl, hv⟩
  · rw [pk_un (by omega), uu_ne e]; exact h x y hx hy
section KRO
variable {w : ab_Wd} {d n nc ns : Nat} {I : Nat → Nat → Int32} {L : Nat → Nat → Int64}
variable {S N : Nat} {sd : Nat → Bool} {e1 e2 pr fm : Nat → Nat} {l : List Nat}
theorem k_measureOver (hT : w.1.stackTraces = false) {E : Nat → Prop} {F : Nat → Nat → Nat} {m : Nat} (hS : S ≤ 10) (hm : m < S) (h0 : I kx_roads 0 = nI S) (hF : mtS e1 e2 pr E S I F) :
    ∃ J G, (∀ c, c ≠ kx_roads_lengths → J c = I c) ∧ mtS e1 e2 pr E S J G ∧ (∀ x y, x < S → y < S → G x y ≤ F x y ∧ G x y ≤ F x m + F m y) ∧ ab_U w (d + 2) mt_Roads_measureOver [.ref kx_roads, .int (nI m)] I L n nc ns J := by
  have outer : ∀ q s (J : Nat → Nat → Int32) (G : Nat → Nat → Nat), s + q = S → (∀ c, c ≠ kx_roads_lengths → J c = I c) → mtS e1 e2 pr E S J G → (∀ x y, x < S → y < S → G x y ≤ F x y) → (∀ x y, x < s → y < S → G x y ≤ F x m + F m y) →
      ∃ J' G', (∀ c, c ≠ kx_roads_lengths → J' c = I c) ∧ mtS e1 e2 pr E S J' G' ∧ (∀ x y, x < S → y < S → G' x y ≤ F x y ∧ G' x y ≤ F x m + F m y) ∧ ab_E w (d + 2) mt_Roads_measureOver 2 [.ref kx_roads, .int (nI m), .int (nI s), .null, .null] [] (J, L, ab_RR, n, nc, ns) (.inl none, (J', L, ab_RR, n, nc, ns)) := by
    intro q
    induction q with
    | zero =>
      intro s J G hs hJ hG g1 g2
      have e : s = S := by omega
      subst e
      refine ⟨J, G, hJ, hG, fun x y hx hy => ⟨g1 x y hx hy, g2 x y hx hy⟩, ?_⟩
      refine r_Roads_measureOver_2 hT _ _ (Nat.le_refl _) (Nat.le_refl _) ?_
      refine bb_t ?_ rfl
      rw [hJ _ (by decide), h0]; exact nI_le (Nat.le_refl _) (by omega)
    | succ q ih =>
      intro s J G hs hJ hG g1 g2
      have hsS : ¬ S ≤ s := by omega
      have z0 : J kx_roads 0 = nI S := by rw [hJ _ (by decide)]; exact h0
      obtain ⟨st, hv⟩ := hG s m (by omega) hm
      have hst := g1 s m (by omega) hm
      have hvl := hv.1
      have next : ∀ (J : Nat → Nat → Int32) (G : Nat → Nat → Nat), (∀ c, c ≠ kx_roads_lengths → J c = I c) → mtS e1 e2 pr E S J G → (∀ x y, x < S → y < S → G x y ≤ F x y) → (∀ x y, x < s + 1 → y < S → G x y ≤ F x m + F m y) →
          ∃ J' G', (∀ c, c ≠ kx_roads_lengths → J' c = I c) ∧ mtS e1 e2 pr E S J' G' ∧ (∀ x y, x < S → y < S → G' x y ≤ F x y ∧ G' x y ≤ F x m + F m y) ∧ ab_E w (d + 2) mt_Roads_measureOver 2 [.ref kx_roads, .int (nI m), .int (nI (s + 1)), .null, .null] [] (J, L, ab_RR, n, nc, ns) (.inl none, (J', L, ab_RR, n, nc, ns)) := fun J G a b c d => ih (s + 1) J G (by omega) a b c d
      generalize hstv : G s m = st' at *
      by_cases hfar : 1000000 ≤ st'
      · obtain ⟨J', G', a1, a2, a3, a4⟩ := next J G hJ hG g1 (fun x y hx hy => by
          by_cases e : x = s
          · rw [e]
            have := (hG s y (by omega) hy).2.1
            omega
          · exact g2 x y (by omega) hy)
        refine ⟨J', G', a1, a2, a3, ?_⟩
        have z : ab_E w (d + 2) mt_Roads_measureOver 20 [.ref kx_roads, .int (nI m), .int (nI s), .int (nI st'), .int 0] [] (J, L, ab_RR, n, nc, ns) (.inl none, (J', L, ab_RR, n, nc, ns)) := by
          refine r_Roads_measureOver_20 hT _ _ _ _ (Nat.le_refl _) (Nat.le_refl _) ?_
          refine ⟨fun _ => by rw [nI_1]; exact a4, fun _ => bb_t ?_ (by rw [nI_1]; exact a4)⟩
          exact (nI_leI (a := 1000000) (by omega) (by omega)).mpr hfar
        refine r_Roads_measureOver_2 hT _ _ (Nat.le_refl _) (Nat.le_refl _) ?_
        simp (disch := first | omega | decide) only [z0, hsS, st, nl_add1, nl_add2, nl_mul1, nl_mul2, nl_sub1, nl_lt1, nl_lt2, nl_le1, nl_le2, nl_eq1, nl_eq2, nl_m1, nl_m2, nl_inT, nI_add, nI_mul, nI_leI, nI_ltI, nI_eq, nI_clamp, nl_bit, oI_n, oI_s, oI_m1, true_and, and_true, eq_self, Bool.false_eq_true, not_false_eq_true, not_true_eq_false, false_implies, true_implies, implies_true, forall_const, Nat.not_lt_zero, ab_row_eq, ab_row_ne, ab_up_i, ab_up_o, pk_us, pk_un, ab_row_row]
        exact z
      · have inner : ∀ r t (J : Nat → Nat → Int32) (G : Nat → Nat → Nat), t + r = S → (∀ c, c ≠ kx_roads_lengths → J c = I c) → mtS e1 e2 pr E S J G → (∀ x y, x < S → y < S → G x y ≤ F x y) → (∀ x y, x < s → y < S → G x y ≤ F x m + F m y) → (∀ y, y < t → G s y ≤ F s m + F m y) →
            ∃ J' G', (∀ c, c ≠ kx_roads_lengths → J' c = I c) ∧ mtS e1 e2 pr E S J' G' ∧ (∀ x y, x < S → y < S → G' x y ≤ F x y ∧ G' x y ≤ F x m + F m y) ∧ ab_E w (d + 2) mt_Roads_measureOver 20 [.ref kx_roads, .int (nI m), .int (nI s), .int (nI st'), .int (nI t)] [] (J, L, ab_RR, n, nc, ns) (.inl none, (J', L, ab_RR, n, nc, ns)) := by
          intro r
          induction r with
          | zero =>
            intro t J G ht hJ hG g1 g2 g3
            have e : t = S := by omega
            subst e
            obtain ⟨J', G', a1, a2, a3, a4⟩ := next J G hJ hG g1 (fun x y hx hy => by
              by_cases e : x = s
              · rw [e]; exact g3 y hy
              · exact g2 x y (by omega) hy)
            refine ⟨J', G', a1, a2, a3, ?_⟩
            refine r_Roads_measureOver_20 hT _ _ _ _ (Nat.le_refl _) (Nat.le_refl _) ?_
            refine bb_t (by rw [hJ _ (by decide), h0]; exact nI_le (Nat.le_refl _) (by omega)) ?_
            rw [nI_1]; exact a4
          | succ r ihr =>
            intro t J G ht hJ hG g1 g2 g3
            have htS : ¬ S ≤ t := by omega
            have z0 : J kx_roads 0 = nI S := by rw [hJ _ (by decide)]; exact h0
            obtain ⟨n1, v1⟩ := hG m t hm (by omega)
            obtain ⟨n2, v2⟩ := hG s t (by omega) (by omega)
            have l1 := v1.1
            have l2 := v2.1
            have gm := g1 m t hm (by omega)
            have hle : min (G s t) (st' + G m t) ≤ G s t := Nat.min_le_left _ _
            obtain ⟨J', G', a1, a2, a3, a4⟩ := ihr (t + 1) (ab_up J kx_roads_lengths (s * 10 + t) (nI (min (G s t) (st' + G m t)))) (uu2 G s t (min (G s t) (st' + G m t))) (by omega) (fun c hc => by rw [ab_up_o hc]; exact hJ c hc) (mtS_up hG (by omega) (by omega) hS (vok_mid hv v1 v2)) (fun x y hx hy => Nat.le_trans (uu_le hle) (g1 x y hx hy)) (fun x y hx hy => Nat.le_trans (uu_le hle) (g2 x y hx hy)) (fun y hy => by
              by_cases e : y = t
              · rw [e, uu_at]
                exact Nat.le_trans (Nat.min_le_right _ _) (by omega)
              · exact Nat.le_trans (uu_le hle) (g3 y (by omega)))
            refine ⟨J', G', a1, a2, a3, ?_⟩
            refine r_Roads_measureOver_20 hT _ _ _ _ (Nat.le_refl _) (Nat.le_refl _) ?_
            simp (disch := first | omega | decide) only [z0, htS, hfar, n1, n2, ab_min_nI, nl_add1, nl_add2, nl_mul1, nl_mul2, nl_sub1, nl_lt1, nl_lt2, nl_le1, nl_le2, nl_eq1, nl_eq2, nl_m1, nl_m2, nl_inT, nI_add, nI_mul, nI_leI, nI_ltI, nI_eq, nI_clamp, nl_bit, oI_n, oI_s, oI_m1, true_and, and_true, eq_self, Bool.false_eq_true, not_false_eq_true, not_true_eq_false, false_implies, true_implies, implies_true, forall_const, Nat.not_lt_zero, ab_row_eq, ab_row_ne, ab_up_i, ab_up_o, pk_us, pk_un, ab_row_row]
            exact a4
        obtain ⟨J', G', a1, a2, a3, a4⟩ := inner S 0 J G (by omega) hJ hG g1 g2 (fun y hy => absurd hy (Nat.not_lt_zero y))
        refine ⟨J', G', a1, a2, a3, ?_⟩
        refine r_Roads_measureOver_2 hT _ _ (Nat.le_refl _) (Nat.le_refl _) ?_
        simp (disch := first | omega | decide) only [z0, hsS, st, nl_add1, nl_add2, nl_mul1, nl_mul2, nl_sub1, nl_lt1, nl_lt2, nl_le1, nl_le2, nl_eq1, nl_eq2, nl_m1, nl_m2, nl_inT, nI_add, nI_mul, nI_leI, nI_ltI, nI_eq, nI_clamp, nl_bit, oI_n, oI_s, oI_m1, true_and, and_true, eq_self, Bool.false_eq_true, not_false_eq_true, not_true_eq_false, false_implies, true_implies, implies_true, forall_const, Nat.not_lt_zero, ab_row_eq, ab_row_ne, ab_up_i, ab_up_o, pk_us, pk_un, ab_row_row]
        exact a4
  obtain ⟨J', G', a1, a2, a3, a4⟩ := outer S 0 I F (by omega) (fun _ _ => rfl) hF (fun _ _ _ _ => Nat.le_refl _) (fun x y hx => absurd hx (Nat.not_lt_zero x))
  refine ⟨J', G', a1, a2, a3, ?_⟩
  refine ab_C_of (by decide) rfl (Nat.le_of_ble_eq_true rfl) hT ?_
  refine r_Roads_measureOver_0 hT _ (Nat.le_refl _) (Nat.le_refl _) ?_
  exact a4
theorem k_measure (hT : w.1.stackTraces = false) (hc : kC I S N sd e1 e2 pr fm l) : ∃ J, (∀ c, c ≠ kx_roads → c ≠ kx_roads_lengths → J c = I c) ∧ J kx_roads 0 = nI S ∧ (∀ x y, x < S → y < S → J kx_roads_lengths (x * 10 + y) = nI (dsN e1 e2 pr (sdE N sd) x y)) ∧ ab_U w (d + 3) mt_Roads_measure [.ref kx_roads, .ref kx_now_cables] I L n nc ns J := by
  have hw := kC_ewp hc
  obtain ⟨⟨p1, p2, p3, p4, p5, p6, p7, p8⟩, c2, c3, c4, c5, c6⟩ := hc
  generalize hI0 : ab_up I kx_roads 0 (nI S) = I0
  have hw0 : I0 kx_roads 0 = nI S := by rw [← hI0, ab_up_i, pk_us]
  have hI0o : ∀ a, a ≠ kx_roads → I0 a = I a := fun a ha => by rw [← hI0, ab_up_o ha]
  generalize hE : sdE N sd = E at *
  have hEi : ∀ k, k < N → (E k ↔ sd k = true) := fun k hk => by rw [← hE]; exact ⟨fun h => h.2, fun h => ⟨hk, h⟩⟩
  have fourth : ∀ q m (J : Nat → Nat → Int32) (F : Nat → Nat → Nat), m + q = S → (∀ c, c ≠ kx_roads_lengths → J c = I0 c) → mtS e1 e2 pr E S J F → (∀ x y c, x < S → y < S → rm e1 e2 pr E m x y c → F x y ≤ c) →
      ∃ J', (∀ c, c ≠ kx_roads_lengths → J' c = I0 c) ∧ (∀ x y, x < S → y < S → J' kx_roads_lengths (x * 10 + y) = nI (dsN e1 e2 pr E x y)) ∧ ab_E w ((d + 1) + 2) mt_Roads_measure 126 [.ref kx_roads, .ref kx_now_cables, .int (nI m)] [] (J, L, ab_RR, n, nc, ns) (.inl none, (J', L, ab_RR, n, nc, ns)) := by
    intro q
    induction q with
    | zero =>
      intro m J F hm hJ hF hr
      have e : m = S := by omega
      subst e
      refine ⟨J, hJ, fun x y hx hy => ?_, ?_⟩
      · rw [(hF x y hx hy).1, dsN_eq (shv_of hw p3 hy (hF x y hx hy).2 (fun u hu => ?_))]
        obtain ⟨p, h1, h2⟩ := hu.1
        exact hr x y u hx hy ⟨p, wm_of hw h1, by omega⟩
      · refine r_Roads_measure_126 hT _ (Nat.le_refl _) (Nat.le_refl _) ?_
        refine bb_t ?_ rfl
        rw [hJ _ (by decide), hw0]; exact nI_le (Nat.le_refl _) (by omega)
    | succ q ih =>
      intro m J F hm hJ hF hr
      have z0 : J kx_roads 0 = nI S := by rw [hJ _ (by decide)]; exact hw0
      obtain ⟨J1, G, a1, a2, a3, a4⟩ := k_measureOver (w := w) (d := d) (n := n) (nc := nc) (ns := ns) (L := L) hT p3 (show m < S by omega) z0 hF
      obtain ⟨J', g1, g2, g3⟩ := ih (m + 1) J1 G (by omega) (fun c hc => (a1 c hc).trans (hJ c hc)) a2 (fun x y c hx hy hrm => by
        obtain ⟨p, h1, h2⟩ := hrm
        obtain ⟨u1, u2⟩ := a3 x y hx hy
        rcases rm_step (pr := pr) h1 with h | ⟨c1, d1, b1, b2, b3⟩
        · have := hr x y _ hx hy h; omega
        · have := hr x m c1 hx (by omega) b1
          have := hr m y d1 (by omega) hy b2
          omega)
      refine ⟨J', g1, g2, ?_⟩
      refine r_Roads_measure_126 hT _ (Nat.le_refl _) (Nat.le_refl _) ?_
      refine bb_f (by rw [z0]; exact nI_ge (by omega) (by omega)) ⟨J1, a4, ?_⟩
      rw [nI_1]; exact g3
  have third : ∀ q k (J : Nat → Nat → Int32) (F : Nat → Nat → Nat), k + q = N → (∀ c, c ≠ kx_roads_lengths → J c = I0 c) → mtS e1 e2 pr E S J F → (∀ x, x < S → F x x ≤ 0) → (∀ j, j < k → E j → F (e1 j) (e2 j) ≤ pr j ∧ F (e2 j) (e1 j) ≤ pr j) →
      ∃ J', (∀ c, c ≠ kx_roads_lengths → J' c = I0 c) ∧ (∀ x y, x < S → y < S → J' kx_roads_lengths (x * 10 + y) = nI (dsN e1 e2 pr E x y)) ∧ ab_E w ((d + 1) + 2) mt_Roads_measure 58 [.ref kx_roads, .ref kx_now_cables, .int (nI k)] [] (J, L, ab_RR, n, nc, ns) (.inl none, (J', L, ab_RR, n, nc, ns)) := by
    intro q
    induction q with
    | zero =>
      intro k J F hk hJ hF h0 he
      have e : k = N := by omega
      subst e
      obtain ⟨J', g1, g2, g3⟩ := fourth S 0 J F (by omega) hJ hF (fun x y c hx hy hr => by
        rcases rm_0 hr with h | ⟨j, h1, h2, h3⟩
        · rw [h]; have := h0 y hy; omega
        · have hjN : j < k := by rw [← hE] at h1; exact h1.1
          have := he j hjN h1
          rcases h2 with ⟨u1, u2⟩ | ⟨u1, u2⟩
          · rw [u1, u2]; omega
          · rw [u1, u2]; omega)
      refine ⟨J', g1, g2, ?_⟩
      refine r_Roads_measure_58 hT _ (Nat.le_refl _) (Nat.le_refl _) ?_
      refine bb_t ?_ g3
      rw [hJ _ (by decide), hI0o _ (by decide), p2]; exact nI_le (Nat.le_refl _) (by omega)
    | succ q ih =>
      intro k J F hk hJ hF h0 he
      have rd : ∀ c, c ≠ kx_roads_lengths → c ≠ kx_roads → J c = I c := fun c h1 h2 => (hJ c h1).trans (hI0o c h2)
      obtain ⟨q1, q2, q3, q4, q5, q6⟩ := p8 k (by omega)
      have hne := (c6 k (by omega)).2.2.2
      rw [← rd kx_now_cables_first (by decide) (by decide)] at q1
      rw [← rd kx_now_cables_second (by decide) (by decide)] at q2
      rw [← rd kx_now_cables_price (by decide) (by decide)] at q3
      have r2 : J kx_now_cables 1 = nI N := by rw [rd _ (by decide) (by decide)]; exact p2
      have hkN : ¬ N ≤ k := by omega
      have hsk := c4 k (by omega)
      rw [← rd kx_now_cables (by decide) (by decide)] at hsk
      by_cases hs : sd k = true
      · have hEk := (hEi k (by omega)).mpr hs
        obtain ⟨n1, v1⟩ := hF _ _ q4 q5
        obtain ⟨n2, v2⟩ := hF _ _ q5 q4
        have l1 := v1.1
        have l2 := v2.1
        have v1' : vok e1 e2 pr E (e1 k) (e2 k) (min (F (e1 k) (e2 k)) (pr k)) := by
          have := vok_add (c := 0) (k := k) (y := e1 k) ⟨by omega, Or.inr (rch_refl _)⟩ hEk (Or.inl ⟨rfl, rfl⟩) v1
          rwa [Nat.zero_add] at this
        have v2' : vok e1 e2 pr E (e2 k) (e1 k) (min (F (e2 k) (e1 k)) (pr k)) := by
          have := vok_add (c := 0) (k := k) (y := e2 k) ⟨by omega, Or.inr (rch_refl _)⟩ hEk (Or.inr ⟨rfl, rfl⟩) v2
          rwa [Nat.zero_add] at this
        have ne1 : ¬ e2 k * 10 + e1 k = e1 k * 10 + e2 k := by omega
        have ne2 : ¬ (e2 k = e1 k ∧ e1 k = e2 k) := fun h => hne h.2
        have f1 := mtS_up hF q4 q5 p3 v1'
        have f2 := mtS_up f1 q5 q4 p3 v2'
        have le1 : ∀ x y, uu2 (uu2 F (e1 k) (e2 k) (min (F (e1 k) (e2 k)) (pr k))) (e2 k) (e1 k) (min (F (e2 k) (e1 k)) (pr k)) x y ≤ F x y := fun x y => Nat.le_trans (uu_le (by rw [uu_ne ne2]; exact Nat.min_le_left _ _)) (uu_le (Nat.min_le_left _ _))
        obtain ⟨J', g1, g2, g3⟩ := ih (k + 1) _ _ (by omega) (fun c hc => by rw [ab_up_o hc, ab_up_o hc]; exact hJ c hc) f2 (fun x hx => Nat.le_trans (le1 x x) (h0 x hx)) (fun j hj hEj => by
          by_cases e : j = k
          · subst e
            constructor
            · rw [uu_ne (fun h => hne h.1), uu_at]; exact Nat.min_le_right _ _
            · rw [uu_at]; exact Nat.min_le_right _ _
          · obtain ⟨b1, b2⟩ := he j (by omega) hEj
            exact ⟨Nat.le_trans (le1 _ _) b1, Nat.le_trans (le1 _ _) b2⟩)
        refine ⟨J', g1, g2, ?_⟩
        refine r_Roads_measure_58 hT _ (Nat.le_refl _) (Nat.le_refl _) ?_
        simp (disch := first | omega | decide) only [r2, hkN, hsk, hs, q1, q2, q3, n1, n2, ab_min_nI, ne1, nl_add1, nl_add2, nl_mul1, nl_mul2, nl_sub1, nl_lt1, nl_lt2, nl_le1, nl_le2, nl_eq1, nl_eq2, nl_m1, nl_m2, nl_inT, nI_add, nI_mul, nI_leI, nI_ltI, nI_eq, nI_clamp, nl_bit, oI_n, oI_s, oI_m1, true_and, and_true, eq_self, Bool.false_eq_true, not_false_eq_true, not_true_eq_false, false_implies, true_implies, implies_true, forall_const, Nat.not_lt_zero, ab_row_eq, ab_row_ne, ab_up_i, ab_up_o, pk_us, pk_un, ab_row_row]
        exact g3
      · obtain ⟨J', g1, g2, g3⟩ := ih (k + 1) J F (by omega) hJ hF h0 (fun j hj hEj => by
          have e : j ≠ k := fun e => hs ((hEi k (by omega)).mp (e ▸ hEj))
          exact he j (by omega) hEj)
        refine ⟨J', g1, g2, ?_⟩
        refine r_Roads_measure_58 hT _ (Nat.le_refl _) (Nat.le_refl _) ?_
        simp (disch := first | omega | decide) only [r2, hkN, hsk, hs, nl_add1, nl_add2, nl_mul1, nl_mul2, nl_sub1, nl_lt1, nl_lt2, nl_le1, nl_le2, nl_eq1, nl_eq2, nl_m1, nl_m2, nl_inT, nI_add, nI_mul, nI_leI, nI_ltI, nI_eq, nI_clamp, nl_bit, oI_n, oI_s, oI_m1, true_and, and_true, eq_self, Bool.false_eq_true, not_false_eq_true, not_true_eq_false, false_implies, true_implies, implies_true, forall_const, Nat.not_lt_zero, ab_row_eq, ab_row_ne, ab_up_i, ab_up_o, pk_us, pk_un, ab_row_row]
        exact g3
  have second : ∀ q i (J : Nat → Nat → Int32), i + q = S → (∀ c, c ≠ kx_roads_lengths → J c = I0 c) → mtS e1 e2 pr E S J (fun x y => if x = y ∧ x < i then 0 else 1000000) →
      ∃ J', (∀ c, c ≠ kx_roads_lengths → J' c = I0 c) ∧ (∀ x y, x < S → y < S → J' kx_roads_lengths (x * 10 + y) = nI (dsN e1 e2 pr E x y)) ∧ ab_E w ((d + 1) + 2) mt_Roads_measure 35 [.ref kx_roads, .ref kx_now_cables, .int (nI i)] [] (J, L, ab_RR, n, nc, ns) (.inl none, (J', L, ab_RR, n, nc, ns)) := by
    intro q
    induction q with
    | zero =>
      intro i J hi hJ hF
      have e : i = S := by omega
      subst e
      obtain ⟨J', g1, g2, g3⟩ := third N 0 J _ (by omega) hJ hF (fun x hx => by
        show (if x = x ∧ x < i then 0 else 1000000) ≤ 0
        rw [if_pos ⟨rfl, hx⟩]; exact Nat.le_refl _) (fun j hj => absurd hj (Nat.not_lt_zero j))
      refine ⟨J', g1, g2, ?_⟩
      refine r_Roads_measure_35 hT _ (Nat.le_refl _) (Nat.le_refl _) ?_
      refine bb_t ?_ g3
      rw [hJ _ (by decide), hw0]; exact nI_le (Nat.le_refl _) (by omega)
    | succ q ih =>
      intro i J hi hJ hF
      have z0 : J kx_roads 0 = nI S := by rw [hJ _ (by decide)]; exact hw0
      have hiS : ¬ S ≤ i := by omega
      obtain ⟨n1, v1⟩ := hF i i (by omega) (by omega)
      have n1' : J kx_roads_lengths (i * 10 + i) = 1000000 := by
        rw [n1]
        show nI (if i = i ∧ i < i then 0 else 1000000) = _
        rw [if_neg (fun h => by omega)]; rfl
      have f1 := mtS_up hF (show i < S by omega) (show i < S by omega) p3 (v := 0) ⟨by omega, Or.inr (rch_refl i)⟩
      have e9 : uu2 (fun x y => if x = y ∧ x < i then 0 else 1000000) i i 0 = fun x y => if x = y ∧ x < i + 1 then 0 else 1000000 := by
        funext x y
        by_cases e : x = i ∧ y = i
        · rw [e.1, e.2, uu_at, if_pos ⟨rfl, by omega⟩]
        · rw [uu_ne e]
          by_cases g : x = y ∧ x < i
          · rw [if_pos g, if_pos ⟨g.1, by omega⟩]
          · rw [if_neg g, if_neg (fun h => by omega)]
      rw [e9] at f1
      obtain ⟨J', g1, g2, g3⟩ := ih (i + 1) _ (by omega) (fun c hc => by rw [ab_up_o hc]; exact hJ c hc) f1
      refine ⟨J', g1, g2, ?_⟩
      have e8 : ab_min32 1000000 0 = nI 0 := by decide
      refine r_Roads_measure_35 hT _ (Nat.le_refl _) (Nat.le_refl _) ?_
      simp (disch := first | omega | decide) only [z0, hiS, n1', e8, nl_add1, nl_add2, nl_mul1, nl_mul2, nl_sub1, nl_lt1, nl_lt2, nl_le1, nl_le2, nl_eq1, nl_eq2, nl_m1, nl_m2, nl_inT, nI_add, nI_mul, nI_leI, nI_ltI, nI_eq, nI_clamp, nl_bit, oI_n, oI_s, oI_m1, true_and, and_true, eq_self, Bool.false_eq_true, not_false_eq_true, not_true_eq_false, false_implies, true_implies, implies_true, forall_const, Nat.not_lt_zero, ab_row_eq, ab_row_ne, ab_up_i, ab_up_o, pk_us, pk_un, ab_row_row]
      exact g3
  have first : ∀ m i (J : Nat → Nat → Int32), i + m = 100 → (∀ c, c ≠ kx_roads_lengths → J c = I0 c) → (∀ k, k < i → J kx_roads_lengths k = 1000000) →
      ∃ J', (∀ c, c ≠ kx_roads_lengths → J' c = I0 c) ∧ (∀ x y, x < S → y < S → J' kx_roads_lengths (x * 10 + y) = nI (dsN e1 e2 pr E x y)) ∧ ab_E w ((d + 1) + 2) mt_Roads_measure 10 [.ref kx_roads, .ref kx_now_cables, .int (nI i)] [] (J, L, ab_RR, n, nc, ns) (.inl none, (J', L, ab_RR, n, nc, ns)) := by
    intro m
    induction m with
    | zero =>
      intro i J hi hJ hf
      obtain ⟨J', g1, g2, g3⟩ := second S 0 J (by omega) hJ (fun x y hx hy => by
        show J kx_roads_lengths (x * 10 + y) = nI (if x = y ∧ x < 0 then 0 else 1000000) ∧ vok e1 e2 pr E x y (if x = y ∧ x < 0 then 0 else 1000000)
        rw [if_neg (fun h => absurd h.2 (Nat.not_lt_zero _)), hf _ (by omega)]
        exact ⟨rfl, Nat.le_refl _, Or.inl rfl⟩)
      refine ⟨J', g1, g2, ?_⟩
      have hi1 : 100 ≤ i := by omega
      refine r_Roads_measure_10 hT _ (Nat.le_refl _) (Nat.le_refl _) ?_
      simp (disch := first | omega | decide) only [hi1, nl_add1, nl_add2, nl_mul1, nl_mul2, nl_sub1, nl_lt1, nl_lt2, nl_le1, nl_le2, nl_eq1, nl_eq2, nl_m1, nl_m2, nl_inT, nI_add, nI_mul, nI_leI, nI_ltI, nI_eq, nI_clamp, nl_bit, oI_n, oI_s, oI_m1, true_and, and_true, eq_self, Bool.false_eq_true, not_false_eq_true, not_true_eq_false, false_implies, true_implies, implies_true, forall_const, Nat.not_lt_zero, ab_row_eq, ab_row_ne, ab_up_i, ab_up_o, pk_us, pk_un, ab_row_row]
      exact g3
    | succ m ih =>
      intro i J hi hJ hf
      have hi1 : ¬ 100 ≤ i := by omega
      obtain ⟨J', g1, g2, g3⟩ := ih (i + 1) (ab_up J kx_roads_lengths i 1000000) (by omega) (fun c hc => by rw [ab_up_o hc]; exact hJ c hc) (fun k hk => by
        rw [ab_up_i]
        by_cases e : k = i
        · rw [e, pk_us]
        · rw [pk_un e]; exact hf k (by omega))
      refine ⟨J', g1, g2, ?_⟩
      refine r_Roads_measure_10 hT _ (Nat.le_refl _) (Nat.le_refl _) ?_
      simp (disch := first | omega | decide) only [hi1, nl_add1, nl_add2, nl_mul1, nl_mul2, nl_sub1, nl_lt1, nl_lt2, nl_le1, nl_le2, nl_eq1, nl_eq2, nl_m1, nl_m2, nl_inT, nI_add, nI_mul, nI_leI, nI_ltI, nI_eq, nI_clamp, nl_bit, oI_n, oI_s, oI_m1, true_and, and_true, eq_self, Bool.false_eq_true, not_false_eq_true, not_true_eq_false, false_implies, true_implies, implies_true, forall_const, Nat.not_lt_zero, ab_row_eq, ab_row_ne, ab_up_i, ab_up_o, pk_us, pk_un, ab_row_row]
      exact g3
  obtain ⟨J', g1, g2, g3⟩ := first 100 0 I0 (by omega) (fun _ _ => rfl) (fun k hk => absurd hk (Nat.not_lt_zero k))
  refine ⟨J', fun c h1 h2 => by rw [g1 c h2, hI0o c h1], by rw [g1 _ (by decide)]; exact hw0, g2, ?_⟩
  refine ab_C_of (by decide) rfl (Nat.le_of_ble_eq_true rfl) hT ?_
  refine r_Roads_measure_0 hT (Nat.le_refl _) (Nat.le_refl _) ?_
  rw [p1, hI0]
  exact g3
theorem k_shortest (hT : w.1.stackTraces = false) (hc : kC I S N sd e1 e2 pr fm l) {a b : Nat} (ha : a < S) (hb : b < S) : ∃ J, (∀ c, c ≠ kx_roads → c ≠ kx_roads_lengths → J c = I c) ∧ ab_PU w (d + 4) mt_Roads_shortest [.ref kx_roads, .ref kx_now_cables, .int (nI a), .int (nI b)] I L n nc ns (shI (dsN e1 e2 pr (sdE N sd) a b)) J := by
  obtain ⟨J, a1, a2, a3, a4⟩ := k_measure (w := w) (d := d) (n := n) (nc := nc) (ns := ns) (L := L) hT hc
  have h := a3 a b ha hb
  have p3 := hc.1.2.2.1
  have hle := dsN_le (x := a) (kC_ewp hc) p3 hb
  refine ⟨J, a1, ?_⟩
  refine ab_C_of (by decide) rfl (Nat.le_of_ble_eq_true rfl) hT ?_
  refine r_Roads_shortest_0 hT _ _ (Nat.le_refl _) (Nat.le_refl _) ?_
  refine ⟨J, a4, ?_⟩
  unfold shI
  by_cases e : 1000000 ≤ dsN e1 e2 pr (sdE N sd) a b
  · rw [if_pos e]
    simp (disch := first | omega | decide) only [h, e, nl_add1, nl_add2, nl_mul1, nl_mul2, nl_sub1, nl_lt1, nl_lt2, nl_le1, nl_le2, nl_eq1, nl_eq2, nl_m1, nl_m2, nl_inT, nI_add, nI_mul, nI_leI, nI_ltI, nI_eq, nI_clamp, nl_bit, oI_n, oI_s, oI_m1, true_and, and_true, eq_self, Bool.false_eq_true, not_false_eq_true, not_true_eq_false, false_implies, true_implies, implies_true, forall_const, Nat.not_lt_zero, ab_row_eq, ab_row_ne, ab_up_i, ab_up_o, pk_us, pk_un, ab_row_row]
  · rw [if_neg e]
    simp (disch := first | omega | decide) only [h, e, nl_add1, nl_add2, nl_mul1, nl_mul2, nl_sub1, nl_lt1, nl_lt2, nl_le1, nl_le2, nl_eq1, nl_eq2, nl_m1, nl_m2, nl_inT, nI_add, nI_mul, nI_leI, nI_ltI, nI_eq, nI_clamp, nl_bit, oI_n, oI_s, oI_m1, true_and, and_true, eq_self, Bool.false_eq_true, not_false_eq_true, not_true_eq_false, false_implies, true_implies, implies_true, forall_const, Nat.not_lt_zero, ab_row_eq, ab_row_ne, ab_up_i, ab_up_o, pk_us, pk_un, ab_row_row]
theorem k_detours (hT : w.1.stackTraces = false) (hq : kQ I S N sd e1 e2 pr fm l) : ∃ J, (∀ c, c ≠ kx_roads → c ≠ kx_roads_lengths → J c = I c) ∧ ab_PU w (d + 4) mt_K_detours [.ref kx] I L n nc ns (nI (smf (fun a => dtC e1 e2 pr (sdE N sd) (net e1 e2 sd l).reverse S a S) S)) J := by
  obtain ⟨J, a1, a2, a3, a4⟩ := k_measure (w := w) (d := d) (n := n) (nc := nc) (ns := ns) (L := L) hT hq.1
  have p3 := hq.1.1.2.2.1
  have hS0 : J kx_now_cables 0 = nI S := by rw [a1 _ (by decide) (by decide)]; exact hq.1.1.1
  have hsp : J kx_ways_span = I kx_ways_span := a1 _ (by decide) (by decide)
  refine ⟨J, a1, ?_⟩
  generalize hg : (fun a => dtC e1 e2 pr (sdE N sd) (net e1 e2 sd l).reverse S a S) = g
  refine ab_C_of (by decide) rfl (Nat.le_of_ble_eq_true rfl) hT ?_
  refine r_K_detours_0 hT (Nat.le_refl _) (Nat.le_refl _) ?_
  refine ⟨J, a4, ?_⟩
  refine up_ind (N := S) (E := fun a => ab_E w ((d + 2) + 2) mt_K_detours 20 [.ref kx, .ref kx_now_cables, .int (nI (smf g a)), .int (nI a), .null] [] (J, L, ab_RR, n, nc, ns) (.inl (some (.int (nI (smf g S)))), (J, L, ab_RR, n, nc, ns))) ?_ ?_ 0 (Nat.zero_le _)
  · refine r_K_detours_20 hT _ _ (Nat.le_refl _) (Nat.le_refl _) ?_
    refine bb_t ?_ rfl
    rw [hS0]; exact nI_le (Nat.le_refl _) (by omega)
  · intro a ha nx
    have hc0 : dtC e1 e2 pr (sdE N sd) (net e1 e2 sd l).reverse S a (a + 1) = 0 := by
      have : ∀ n, n ≤ a + 1 → fa_cnt (fun b => decide (a < b) && dtB e1 e2 pr (sdE N sd) (net e1 e2 sd l).reverse a b) n = 0 := by
        intro n
        induction n with
        | zero => intro _; rfl
        | succ n ih => intro h; rw [fa_cnt_no (by rw [decide_eq_false (by omega)]; rfl)]; exact ih (by omega)
      exact this _ (Nat.le_refl _)
    have e9 : g a = dtC e1 e2 pr (sdE N sd) (net e1 e2 sd l).reverse S a S := by rw [← hg]
    rw [smf, e9] at nx
    have := up_ind (N := S) (E := fun b => a < b → ab_E w ((d + 2) + 2) mt_K_detours 33 [.ref kx, .ref kx_now_cables, .int (nI (smf g a + dtC e1 e2 pr (sdE N sd) (net e1 e2 sd l).reverse S a b)), .int (nI a), .int (nI b)] [] (J, L, ab_RR, n, nc, ns) (.inl (some (.int (nI (smf g S)))), (J, L, ab_RR, n, nc, ns))) ?_ ?_ (a + 1) (by omega) (by omega)
    · rw [hc0, Nat.add_zero] at this
      refine r_K_detours_20 hT _ _ (Nat.le_refl _) (Nat.le_refl _) ?_
      refine bb_f (by rw [hS0]; exact nI_ge ha (by omega)) ?_
      rw [nI_1]; exact this
    · intro _
      refine r_K_detours_33 hT _ _ _ (Nat.le_refl _) (Nat.le_refl _) ?_
      refine bb_t (by rw [hS0]; exact nI_le (Nat.le_refl _) (by omega)) ?_
      rw [nI_1]; exact nx
    · intro b hb nxb hab
      have nxb := nxb (by omega)
      have hbS : ¬ S ≤ b := by omega
      have s1 := (kq_w hq a b ha hb).1
      rw [← hsp] at s1
      have r1 := a3 a b ha hb
      have hle := dsN_le (x := a) (kC_ewp hq.1) p3 hb
      cases hp : pth e1 e2 (net e1 e2 sd l).reverse a b with
      | none =>
        rw [hp] at s1
        have s1' : J kx_ways_span (a * 10 + b) = -1 := s1
        have e8 : dtC e1 e2 pr (sdE N sd) (net e1 e2 sd l).reverse S a (b + 1) = dtC e1 e2 pr (sdE N sd) (net e1 e2 sd l).reverse S a b := by
          unfold dtC
          rw [fa_cnt_no (by unfold dtB; rw [hp]; simp)]
        rw [e8] at nxb
        have hm1 : (-1 : Int32) ≤ nI (dsN e1 e2 pr (sdE N sd) a b) := fa_of_nlt (nI_nm1 (by omega))
        refine r_K_detours_33 hT _ _ _ (Nat.le_refl _) (Nat.le_refl _) ?_
        simp (disch := first | omega | decide) only [hS0, hbS, s1', r1, nl_add1, nl_add2, nl_mul1, nl_mul2, nl_sub1, nl_lt1, nl_lt2, nl_le1, nl_le2, nl_eq1, nl_eq2, nl_m1, nl_m2, nl_inT, nI_add, nI_mul, nI_leI, nI_ltI, nI_eq, nI_clamp, nl_bit, oI_n, oI_s, oI_m1, true_and, and_true, eq_self, Bool.false_eq_true, not_false_eq_true, not_true_eq_false, false_implies, true_implies, implies_true, forall_const, Nat.not_lt_zero, ab_row_eq, ab_row_ne, ab_up_i, ab_up_o, pk_us, pk_un, ab_row_row]
        exact ⟨fun _ => nxb, fun e => absurd hm1 e⟩
      | some p =>
        rw [hp] at s1
        have s1' : J kx_ways_span (a * 10 + b) = nI (p.map pr).sum := s1
        have hs9 : (p.map pr).sum < 2 ^ 31 := kq_sum hq hp
        refine r_K_detours_33 hT _ _ _ (Nat.le_refl _) (Nat.le_refl _) ?_
        simp (disch := first | omega | decide) only [hS0, hbS, s1', r1, nl_add1, nl_add2, nl_mul1, nl_mul2, nl_sub1, nl_lt1, nl_lt2, nl_le1, nl_le2, nl_eq1, nl_eq2, nl_m1, nl_m2, nl_inT, nI_add, nI_mul, nI_leI, nI_ltI, nI_eq, nI_clamp, nl_bit, oI_n, oI_s, oI_m1, true_and, and_true, eq_self, Bool.false_eq_true, not_false_eq_true, not_true_eq_false, false_implies, true_implies, implies_true, forall_const, Nat.not_lt_zero, ab_row_eq, ab_row_ne, ab_up_i, ab_up_o, pk_us, pk_un, ab_row_row]
        refine ⟨fun e => ?_, fun e => ?_⟩
        · have e8 : dtC e1 e2 pr (sdE N sd) (net e1 e2 sd l).reverse S a (b + 1) = dtC e1 e2 pr (sdE N sd) (net e1 e2 sd l).reverse S a b := by
            unfold dtC
            rw [fa_cnt_no (by unfold dtB; rw [hp]; simp; omega)]
          rw [e8] at nxb; exact nxb
        · have e8 : dtC e1 e2 pr (sdE N sd) (net e1 e2 sd l).reverse S a (b + 1) = dtC e1 e2 pr (sdE N sd) (net e1 e2 sd l).reverse S a b + 1 := by
            unfold dtC
            rw [fa_cnt_yes (by unfold dtB; rw [hp]; simp; omega)]
          rw [e8] at nxb; exact nxb
end KRO
