/-! THE CLASS: connect, trace, settle -/
theorem fo_suf {e1 e2 : Nat → Nat} : ∀ {A B : List Nat}, fo e1 e2 (A ++ B) → fo e1 e2 B := by
  intro A
  induction A with
  | nil => intro B h; exact h
  | cons c A ih => intro B h; exact ih h.1
theorem pt_sum {e1 e2 pr : Nat → Nat} {T : List Nat} {x y : Nat} {p : List Nat} (hf : fo e1 e2 T) (hl : T.length ≤ 24) (hp : ∀ k ∈ T, pr k ≤ 999) (h : pth e1 e2 T x y = some p) : (p.map pr).sum < 2 ^ 31 := by
  have h1 := pt_len hf (pth_pt h)
  have h2 := sum_le (f := pr) (b := 999) p (fun k hk => hp k (pt_mem (pth_pt h) k hk).1)
  have : 999 * p.length ≤ 999 * 24 := Nat.mul_le_mul_left _ (by omega)
  omega
section KTT
variable {w : ab_Wd} {d n nc ns : Nat} {I : Nat → Nat → Int32} {L : Nat → Nat → Int64}
variable {S N : Nat} {sd : Nat → Bool} {e1 e2 pr fm : Nat → Nat} {l : List Nat}
theorem k_connect (hT : w.1.stackTraces = false) {T : List Nat} {c : Nat} (hS : S ≤ 10) (hN : N ≤ 24) (hc : c < N) (h0 : I kx_ways 0 = nI S) (f1 : I kx_now_cables_first c = nI (e1 c)) (f2 : I kx_now_cables_second c = nI (e2 c)) (f3 : I kx_now_cables_price c = nI (pr c)) (b1 : e1 c < S) (b2 : e2 c < S) (hf : fo e1 e2 (c :: T)) (hl : T.length ≤ 24) (hpr : ∀ k ∈ T, pr k ≤ 999) (hch : ∀ k ∈ T, ch pr k c) (hw : wyC e1 e2 pr S T I) :
    ∃ J, wfr J I ∧ wyC e1 e2 pr S (c :: T) J ∧ ab_U w (d + 2) mt_Ways_connect [.ref kx_ways, .ref kx_now_cables, .int (nI c)] I L n nc ns J := by
  have hb : ∀ x y p, pth e1 e2 T x y = some p → (p.map pr).sum < 2 ^ 31 := fun x y p h => pt_sum hf.1 hl hpr h
  have j1 := k_joinedWith (w := w) (d := d) (n := n) (nc := nc) (ns := ns) (L := L) hT hS b1 h0 hw hb
  have j2 := k_joinedWith (w := w) (d := d) (n := n) (nc := nc) (ns := ns) (L := L) hT hS b2 h0 hw hb
  generalize hA : ab_mask S (fun s => cnB e1 e2 (fun k => k ∈ T) (e1 c) s) = A at *
  generalize hB : ab_mask S (fun s => cnB e1 e2 (fun k => k ∈ T) (e2 c) s) = B at *
  have hAb : ∀ s, s < S → (bt A s = true ↔ cn e1 e2 (fun k => k ∈ T) s (e1 c)) := fun s hs => by
    rw [← hA, ab_mask_bt _ _ (by omega) s (by omega), decide_eq_true hs, Bool.true_and, cnB_iff]
    exact ⟨cn_symm, cn_symm⟩
  have hBb : ∀ s, s < S → (bt B s = true ↔ cn e1 e2 (fun k => k ∈ T) (e2 c) s) := fun s hs => by
    rw [← hB, ab_mask_bt _ _ (by omega) s (by omega), decide_eq_true hs, Bool.true_and, cnB_iff]
  -- what holds on the way
  generalize hInv : (fun (x y : Nat) (J : Nat → Nat → Int32) => wfr J I ∧ (∀ a b, a < S → b < S → wyA pr J a b (pth e1 e2 T a b) ∨ wyA pr J a b (pth e1 e2 (c :: T) a b)) ∧ ∀ a b, a < S → b < S → cn e1 e2 (fun k => k ∈ T) a (e1 c) → cn e1 e2 (fun k => k ∈ T) (e2 c) b → (a < x ∨ (a = x ∧ b < y)) → wyA pr J a b (pth e1 e2 (c :: T) a b) ∧ wyA pr J b a (pth e1 e2 (c :: T) b a)) = Inv
  have same : ∀ (J : Nat → Nat → Int32) x y a b p, Inv x y J → a < S → b < S → pth e1 e2 T a b = some p → wyA pr J a b (some p) := by
    intro J x y a b p hJ ha hb hp
    rw [← hInv] at hJ
    rcases hJ.2.1 a b ha hb with h | h
    · rw [hp] at h; exact h
    · rw [pth_up hf hp] at h; exact h
  have outer : ∀ m x (J : Nat → Nat → Int32), x + m = S → Inv x 0 J → ∃ J', Inv S 0 J' ∧ ab_E w ((d + 1) + 1) mt_Ways_connect 26 [.ref kx_ways, .ref kx_now_cables, .int (nI c), .int A, .int B, .int (nI x), .null, .null] [] (J, L, ab_RR, n, nc, ns) (.inl none, (J', L, ab_RR, n, nc, ns)) := by
    intro m
    induction m with
    | zero =>
      intro x J hx hJ
      have e : x = S := by omega
      subst e
      refine ⟨J, hJ, ?_⟩
      have hJ0 : J kx_ways 0 = nI x := by
        rw [← hInv] at hJ
        rw [hJ.1 _ (by decide) (by decide) (by decide) (by decide)]; exact h0
      refine r_Ways_connect_26 hT _ _ _ _ (Nat.le_refl _) (Nat.le_refl _) ?_
      refine bb_t ?_ rfl
      rw [hJ0]; exact nI_le (Nat.le_refl _) (by omega)
    | succ m ih =>
      intro x J hx hJ
      have hxS : ¬ S ≤ x := by omega
      have hJ0 : ∀ {y} {J : Nat → Nat → Int32}, Inv x y J → J kx_ways 0 = nI S := fun {y} {J} hJ => by
        rw [← hInv] at hJ
        rw [hJ.1 _ (by decide) (by decide) (by decide) (by decide)]; exact h0
      have next : ∀ (J : Nat → Nat → Int32), Inv x S J → Inv (x + 1) 0 J := fun J hJ => by
        rw [← hInv] at hJ ⊢
        refine ⟨hJ.1, hJ.2.1, fun a b ha hb g1 g2 h => hJ.2.2 a b ha hb g1 g2 ?_⟩
        omega
      have nextN : ∀ (J : Nat → Nat → Int32), ¬ cn e1 e2 (fun k => k ∈ T) x (e1 c) → Inv x 0 J → Inv (x + 1) 0 J := fun J hn hJ => by
        rw [← hInv] at hJ ⊢
        refine ⟨hJ.1, hJ.2.1, fun a b ha hb g1 g2 h => hJ.2.2 a b ha hb g1 g2 ?_⟩
        by_cases e : a = x
        · rw [e] at g1; exact absurd g1 hn
        · omega
      by_cases hn : cn e1 e2 (fun k => k ∈ T) x (e1 c)
      · have hbt := (hAb x (by omega)).mpr hn
        obtain ⟨p, hp⟩ := pth_cn.mpr hn
        have inner : ∀ q y (J : Nat → Nat → Int32), y + q = S → Inv x y J → ∃ J', Inv S 0 J' ∧ ab_E w ((d + 1) + 1) mt_Ways_connect 55 [.ref kx_ways, .ref kx_now_cables, .int (nI c), .int A, .int B, .int (nI x), .int 1, .int (nI y)] [] (J, L, ab_RR, n, nc, ns) (.inl none, (J', L, ab_RR, n, nc, ns)) := by
          intro q
          induction q with
          | zero =>
            intro y J hy hJ
            have e : y = S := by omega
            subst e
            obtain ⟨J', g1, g2⟩ := ih (x + 1) J (by omega) (next J hJ)
            refine ⟨J', g1, ?_⟩
            have hz := hJ0 hJ
            refine r_Ways_connect_55 hT _ _ _ _ _ _ (Nat.le_refl _) (Nat.le_refl _) ?_
            refine bb_t (by rw [hz]; exact nI_le (Nat.le_refl _) (by omega)) ?_
            rw [nI_1]; exact g2
          | succ q ihq =>
            intro y J hy hJ
            have hz := hJ0 hJ
            have hyS : ¬ S ≤ y := by omega
            by_cases hm : cn e1 e2 (fun k => k ∈ T) (e2 c) y
            · have hbt2 := (hBb y (by omega)).mpr hm
              obtain ⟨q', hq'⟩ := pth_cn.mpr hm
              have hJ' := hJ
              rw [← hInv] at hJ'
              have fr : ∀ a, a ≠ kx_ways_span → a ≠ kx_ways_hops → a ≠ kx_ways_step → a ≠ kx_ways_dearest → J a = I a := hJ'.1
              have lk := k_link (w := w) (d := d) (n := n) (nc := nc) (ns := ns) (L := L) (I := J) hT (c := c) (x := x) (y := y) hS hN hc (by rw [fr _ (by decide) (by decide) (by decide) (by decide)]; exact f1) (by rw [fr _ (by decide) (by decide) (by decide) (by decide)]; exact f2) (by rw [fr _ (by decide) (by decide) (by decide) (by decide)]; exact f3) b1 b2 (by omega) (by omega) (by
                intro e
                subst e
                exact hf.2 (cn_trans (cn_symm hn) (cn_symm hm)))
              obtain ⟨o1, o2, o3⟩ := lk_ok (J := J) hf hch (x := x) (y := y) (by omega) (by omega) hS hp hq' (same J x y _ _ _ hJ (by omega) b1 hp) (same J x y _ _ _ hJ b2 (by omega) hq') (same J x y _ _ _ hJ (by omega) b2 (pth_rev hf.1 hq'))
              generalize hJ2 : lk_m J (x * 10 + y) (y * 10 + x) (J kx_ways_span (x * 10 + e1 c) + nI (pr c) + J kx_ways_span (e2 c * 10 + y)) (J kx_ways_hops (x * 10 + e1 c) + 1 + J kx_ways_hops (e2 c * 10 + y)) (if x = e1 c then nI c else J kx_ways_step (x * 10 + e1 c)) (if y = e2 c then nI c else J kx_ways_step (y * 10 + e2 c)) (nI c) = J2 at *
              have hI2 : Inv x (y + 1) J2 := by
                rw [← hInv]
                refine ⟨wfr_trans (by rw [← hJ2]; exact lk_fr) hJ'.1, fun a b ha hb => ?_, fun a b ha hb g1 g2 h => ?_⟩
                · by_cases q1 : a = x ∧ b = y
                  · rw [q1.1, q1.2]; exact Or.inr o1
                  · by_cases q2 : a = y ∧ b = x
                    · rw [q2.1, q2.2]; exact Or.inr o2
                    · exact (hJ'.2.1 a b ha hb).imp (o3 a b ha hb q1 q2 _) (o3 a b ha hb q1 q2 _)
                · by_cases q1 : a = x ∧ b = y
                  · rw [q1.1, q1.2]; exact ⟨o1, o2⟩
                  · by_cases q2 : a = y ∧ b = x
                    · rw [q2.1, q2.2]; exact ⟨o2, o1⟩
                    · obtain ⟨u1, u2⟩ := hJ'.2.2 a b ha hb g1 g2 (by omega)
                      exact ⟨o3 a b ha hb q1 q2 _ u1, o3 b a hb ha (fun h => q2 ⟨h.2, h.1⟩) (fun h => q1 ⟨h.2, h.1⟩) _ u2⟩
              obtain ⟨J', g1, g2⟩ := ihq (y + 1) J2 (by omega) hI2
              refine ⟨J', g1, ?_⟩
              refine r_Ways_connect_55 hT _ _ _ _ _ _ (Nat.le_refl _) (Nat.le_refl _) ?_
              simp (disch := first | omega | decide) only [hz, hyS, hbt2, nl_add1, nl_add2, nl_mul1, nl_mul2, nl_sub1, nl_lt1, nl_lt2, nl_le1, nl_le2, nl_eq1, nl_eq2, nl_m1, nl_m2, nl_inT, nI_add, nI_mul, nI_leI, nI_ltI, nI_eq, nI_clamp, nl_bit, oI_n, oI_s, oI_m1, true_and, and_true, eq_self, Bool.false_eq_true, not_false_eq_true, not_true_eq_false, false_implies, true_implies, implies_true, forall_const, Nat.not_lt_zero, ab_row_eq, ab_row_ne, ab_up_i, ab_up_o, pk_us, pk_un, ab_row_row]
              exact ⟨fun e => absurd e (by decide), fun _ => ⟨J2, lk, g2⟩⟩
            · have hbt2 : ¬ bt B y = true := fun h => hm ((hBb y (by omega)).mp h)
              have hI2 : Inv x (y + 1) J := by
                rw [← hInv] at hJ ⊢
                refine ⟨hJ.1, hJ.2.1, fun a b ha hb g1 g2 h => hJ.2.2 a b ha hb g1 g2 ?_⟩
                by_cases e : b = y
                · rw [e] at g2; exact absurd g2 hm
                · omega
              obtain ⟨J', g1, g2⟩ := ihq (y + 1) J (by omega) hI2
              refine ⟨J', g1, ?_⟩
              refine r_Ways_connect_55 hT _ _ _ _ _ _ (Nat.le_refl _) (Nat.le_refl _) ?_
              simp (disch := first | omega | decide) only [hz, hyS, hbt2, nl_add1, nl_add2, nl_mul1, nl_mul2, nl_sub1, nl_lt1, nl_lt2, nl_le1, nl_le2, nl_eq1, nl_eq2, nl_m1, nl_m2, nl_inT, nI_add, nI_mul, nI_leI, nI_ltI, nI_eq, nI_clamp, nl_bit, oI_n, oI_s, oI_m1, true_and, and_true, eq_self, Bool.false_eq_true, not_false_eq_true, not_true_eq_false, false_implies, true_implies, implies_true, forall_const, Nat.not_lt_zero, ab_row_eq, ab_row_ne, ab_up_i, ab_up_o, pk_us, pk_un, ab_row_row]
              exact ⟨fun e => absurd e (by decide), fun _ => g2⟩
        obtain ⟨J', g1, g2⟩ := inner S 0 J (by omega) hJ
        refine ⟨J', g1, ?_⟩
        have hz := hJ0 hJ
        refine r_Ways_connect_26 hT _ _ _ _ (Nat.le_refl _) (Nat.le_refl _) ?_
        simp (disch := first | omega | decide) only [hz, hxS, hbt, nl_add1, nl_add2, nl_mul1, nl_mul2, nl_sub1, nl_lt1, nl_lt2, nl_le1, nl_le2, nl_eq1, nl_eq2, nl_m1, nl_m2, nl_inT, nI_add, nI_mul, nI_leI, nI_ltI, nI_eq, nI_clamp, nl_bit, oI_n, oI_s, oI_m1, true_and, and_true, eq_self, Bool.false_eq_true, not_false_eq_true, not_true_eq_false, false_implies, true_implies, implies_true, forall_const, Nat.not_lt_zero, ab_row_eq, ab_row_ne, ab_up_i, ab_up_o, pk_us, pk_un, ab_row_row]
        exact g2
      · have hbt : ¬ bt A x = true := fun h => hn ((hAb x (by omega)).mp h)
        obtain ⟨J', g1, g2⟩ := ih (x + 1) J (by omega) (nextN J hn hJ)
        refine ⟨J', g1, ?_⟩
        have hz := hJ0 hJ
        have hS0 : ¬ S ≤ 0 := by omega
        have z : ab_E w ((d + 1) + 1) mt_Ways_connect 55 [.ref kx_ways, .ref kx_now_cables, .int (nI c), .int A, .int B, .int (nI x), .int 0, .int 0] [] (J, L, ab_RR, n, nc, ns) (.inl none, (J', L, ab_RR, n, nc, ns)) := by
          refine r_Ways_connect_55 hT _ _ _ _ _ _ (Nat.le_refl _) (Nat.le_refl _) ?_
          refine ⟨fun _ => by rw [nI_1]; exact g2, fun _ => ⟨fun _ => by rw [nI_1]; exact g2, fun e => absurd rfl e⟩⟩
        refine r_Ways_connect_26 hT _ _ _ _ (Nat.le_refl _) (Nat.le_refl _) ?_
        simp (disch := first | omega | decide) only [hz, hxS, hbt, nl_add1, nl_add2, nl_mul1, nl_mul2, nl_sub1, nl_lt1, nl_lt2, nl_le1, nl_le2, nl_eq1, nl_eq2, nl_m1, nl_m2, nl_inT, nI_add, nI_mul, nI_leI, nI_ltI, nI_eq, nI_clamp, nl_bit, oI_n, oI_s, oI_m1, true_and, and_true, eq_self, Bool.false_eq_true, not_false_eq_true, not_true_eq_false, false_implies, true_implies, implies_true, forall_const, Nat.not_lt_zero, ab_row_eq, ab_row_ne, ab_up_i, ab_up_o, pk_us, pk_un, ab_row_row]
        exact z
  have start : Inv 0 0 I := by
    rw [← hInv]
    exact ⟨fun _ _ _ _ _ => rfl, fun a b ha hb => Or.inl (hw a b ha hb), fun a b ha hb _ _ h => absurd h (by omega)⟩
  obtain ⟨J', g1, g2⟩ := outer S 0 I (by omega) start
  rw [← hInv] at g1
  refine ⟨J', g1.1, fun a b ha hb => ?_, ?_⟩
  · cases hp : pth e1 e2 T a b with
    | some p =>
      have := pth_up hf hp
      rcases g1.2.1 a b ha hb with h | h
      · rw [hp] at h; rw [this]; exact h
      · exact h
    | none =>
      by_cases hq : cn e1 e2 (fun k => k ∈ c :: T) a b
      · rw [cn_cons, cn_add] at hq
        rcases hq with hq | ⟨h1, h2⟩ | ⟨h1, h2⟩
        · exact absurd hq (pth_none_cn.mp hp)
        · exact (g1.2.2 a b ha hb h1 h2 (Or.inl (by omega))).1
        · exact (g1.2.2 b a hb ha (cn_symm h2) (cn_symm h1) (Or.inl (by omega))).2
      · have hn := pth_none hq
        rcases g1.2.1 a b ha hb with h | h
        · rw [hp] at h; rw [hn]; exact h
        · exact h
  · refine ab_C_of (by decide) rfl (Nat.le_of_ble_eq_true rfl) hT ?_
    refine r_Ways_connect_0 hT _ (Nat.le_refl _) (Nat.le_refl _) ?_
    simp (disch := first | omega | decide) only [f1, f2, nl_add1, nl_add2, nl_mul1, nl_mul2, nl_sub1, nl_lt1, nl_lt2, nl_le1, nl_le2, nl_eq1, nl_eq2, nl_m1, nl_m2, nl_inT, nI_add, nI_mul, nI_leI, nI_ltI, nI_eq, nI_clamp, nl_bit, oI_n, oI_s, oI_m1, true_and, and_true, eq_self, Bool.false_eq_true, not_false_eq_true, not_true_eq_false, false_implies, true_implies, implies_true, forall_const, Nat.not_lt_zero, ab_row_eq, ab_row_ne, ab_up_i, ab_up_o, pk_us, pk_un, ab_row_row]
    exact ⟨_, j1, _, j2, g2⟩
/-- nothing is joined yet -/
theorem pth_nil (x y : Nat) : pth e1 e2 [] x y = if x = y then some [] else none := by
  by_cases e : x = y
  · rw [if_pos e, e]; exact pth_self trivial
  · rw [if_neg e]; exact pth_none (fun h => e ((cn_none (fun c h => by cases h)).mp h))
theorem k_trace (hT : w.1.stackTraces = false) {T : List Nat} (hp : gr_pre I kx_now_cables kx_now_cables_first kx_now_cables_second kx_now_cables_price kx_now_cables_order S N e1 e2 pr l) (hTN : ∀ k ∈ T, k < N) (hf : fo e1 e2 T.reverse) (hpw : T.Pairwise (ch pr)) (hT9 : T.length ≤ 9) (h1 : I kx_forest 1 = nI T.length) (h2 : ∀ j, j < T.length → I kx_forest_order j = nI (T.getD j 0)) :
    ∃ J, (∀ a, a ≠ kx_ways → a ≠ kx_ways_span → a ≠ kx_ways_hops → a ≠ kx_ways_step → a ≠ kx_ways_dearest → J a = I a) ∧ J kx_ways 0 = nI S ∧ wyC e1 e2 pr S T.reverse J ∧ ab_U w (d + 3) mt_Ways_trace [.ref kx_ways, .ref kx_now_cables, .ref kx_forest] I L n nc ns J := by
  obtain ⟨p1, p2, p3, p4, p5, p6, p7, p8⟩ := hp
  generalize hI0 : ab_up I kx_ways 0 (nI S) = I0
  have hw0 : I0 kx_ways 0 = nI S := by rw [← hI0, ab_up_i, pk_us]
  have hI0o : ∀ a, a ≠ kx_ways → I0 a = I a := fun a ha => by rw [← hI0, ab_up_o ha]
  -- the net's cables, one behind the other
  have third : ∀ m i (J : Nat → Nat → Int32), i + m = T.length → wfr J I0 → wyC e1 e2 pr S (T.take i).reverse J → ∃ J', wfr J' I0 ∧ wyC e1 e2 pr S T.reverse J' ∧ ab_E w ((d + 2) + 1) mt_Ways_trace 93 [.ref kx_ways, .ref kx_now_cables, .ref kx_forest, .int (nI i)] [] (J, L, ab_RR, n, nc, ns) (.inl none, (J', L, ab_RR, n, nc, ns)) := by
    intro m
    induction m with
    | zero =>
      intro i J hi hJ hw
      rw [List.take_of_length_le (by omega)] at hw
      refine ⟨J, hJ, hw, ?_⟩
      have q1 : J kx_forest 1 = nI T.length := by rw [hJ _ (by decide) (by decide) (by decide) (by decide), hI0o _ (by decide)]; exact h1
      refine r_Ways_trace_93 hT _ (Nat.le_refl _) (Nat.le_refl _) ?_
      refine bb_t ?_ rfl
      rw [q1]; exact nI_le (by omega) (by omega)
    | succ m ih =>
      intro i J hi hJ hw
      have hil : i < T.length := by omega
      have hiT : ¬ T.length ≤ i := by omega
      have q0 : J kx_ways 0 = nI S := by rw [hJ _ (by decide) (by decide) (by decide) (by decide)]; exact hw0
      have q1 : J kx_forest 1 = nI T.length := by rw [hJ _ (by decide) (by decide) (by decide) (by decide), hI0o _ (by decide)]; exact h1
      have q2 : J kx_forest_order i = nI (T.getD i 0) := by rw [hJ _ (by decide) (by decide) (by decide) (by decide), hI0o _ (by decide)]; exact h2 i hil
      have hcm := getD_mem (Q := T) hil
      have ts := take_snoc (p := T) hil
      have hsub : ∀ k ∈ (T.take i).reverse, k ∈ T := fun k hk => List.mem_of_mem_take (List.mem_reverse.mp hk)
      have hfo : fo e1 e2 (T.getD i 0 :: (T.take i).reverse) := by
        have e : T.reverse = (T.drop (i + 1)).reverse ++ (T.take (i + 1)).reverse := by
          rw [← List.reverse_append, List.take_append_drop]
        rw [e] at hf
        have := fo_suf hf
        rw [ts, List.reverse_append] at this
        exact this
      have hchp : ∀ k ∈ (T.take i).reverse, ch pr k (T.getD i 0) := by
        have h9 : (T.take (i + 1)).Pairwise (ch pr) := hpw.sublist (List.take_sublist _ _)
        rw [ts, List.pairwise_append] at h9
        exact fun k hk => h9.2.2 k (List.mem_reverse.mp hk) _ List.mem_cons_self
      have ets : (T.take (i + 1)).reverse = T.getD i 0 :: (T.take i).reverse := by rw [ts, List.reverse_append]; rfl
      generalize T.getD i 0 = c at *
      have hcN := hTN c hcm
      obtain ⟨u1, u2, u3, u4, u5, u6⟩ := p8 c hcN
      have rd : ∀ a, a ≠ kx_ways_span → a ≠ kx_ways_hops → a ≠ kx_ways_step → a ≠ kx_ways_dearest → a ≠ kx_ways → J a = I a := fun a n1 n2 n3 n4 n5 => by rw [hJ a n1 n2 n3 n4, hI0o a n5]
      obtain ⟨J2, a1, a2, a3⟩ := k_connect (w := w) (d := d) (n := n) (nc := nc) (ns := ns) (L := L) (I := J) (N := N) hT p3 p4 hcN q0 (by rw [rd _ (by decide) (by decide) (by decide) (by decide) (by decide)]; exact u1) (by rw [rd _ (by decide) (by decide) (by decide) (by decide) (by decide)]; exact u2) (by rw [rd _ (by decide) (by decide) (by decide) (by decide) (by decide)]; exact u3) u4 u5 hfo (by rw [List.length_reverse, List.length_take]; omega) (fun k hk => (p8 k (hTN k (hsub k hk))).2.2.2.2.2) hchp hw
      obtain ⟨J', g1, g2, g3⟩ := ih (i + 1) J2 (by omega) (wfr_trans a1 hJ) (by rw [ets]; exact a2)
      refine ⟨J', g1, g2, ?_⟩
      refine r_Ways_trace_93 hT _ (Nat.le_refl _) (Nat.le_refl _) ?_
      simp (disch := first | omega | decide) only [q1, hiT, q2, nl_add1, nl_add2, nl_mul1, nl_mul2, nl_sub1, nl_lt1, nl_lt2, nl_le1, nl_le2, nl_eq1, nl_eq2, nl_m1, nl_m2, nl_inT, nI_add, nI_mul, nI_leI, nI_ltI, nI_eq, nI_clamp, nl_bit, oI_n, oI_s, oI_m1, true_and, and_true, eq_self, Bool.false_eq_true, not_false_eq_true, not_true_eq_false, false_implies, true_implies, implies_true, forall_const, Nat.not_lt_zero, ab_row_eq, ab_row_ne, ab_up_i, ab_up_o, pk_us, pk_un, ab_row_row]
      exact ⟨J2, a3, g3⟩
  have second : ∀ m i (J : Nat → Nat → Int32), i + m = S → wfr J I0 → (∀ x y, x < S → y < S → wyA pr J x y (if x = y ∧ x < i then some [] else none)) → ∃ J', wfr J' I0 ∧ wyC e1 e2 pr S T.reverse J' ∧ ab_E w ((d + 2) + 1) mt_Ways_trace 55 [.ref kx_ways, .ref kx_now_cables, .ref kx_forest, .int (nI i)] [] (J, L, ab_RR, n, nc, ns) (.inl none, (J', L, ab_RR, n, nc, ns)) := by
    intro m
    induction m with
    | zero =>
      intro i J hi hJ hw
      have e : i = S := by omega
      subst e
      obtain ⟨J', g1, g2, g3⟩ := third T.length 0 J (by omega) hJ (fun x y hx hy => by
        have := hw x y hx hy
        rw [List.take_zero, List.reverse_nil, pth_nil]
        by_cases e : x = y
        · rw [if_pos e]; rw [if_pos ⟨e, hx⟩] at this; exact this
        · rw [if_neg e]; rw [if_neg (fun h => e h.1)] at this; exact this)
      refine ⟨J', g1, g2, ?_⟩
      have q0 : J kx_ways 0 = nI i := by rw [hJ _ (by decide) (by decide) (by decide) (by decide)]; exact hw0
      refine r_Ways_trace_55 hT _ (Nat.le_refl _) (Nat.le_refl _) ?_
      refine bb_t ?_ g3
      rw [q0]; exact nI_le (Nat.le_refl _) (by omega)
    | succ m ih =>
      intro i J hi hJ hw
      have q0 : J kx_ways 0 = nI S := by rw [hJ _ (by decide) (by decide) (by decide) (by decide)]; exact hw0
      have hiS : ¬ S ≤ i := by omega
      obtain ⟨J', g1, g2, g3⟩ := ih (i + 1) (ab_up (ab_up J kx_ways_span (i * 10 + i) 0) kx_ways_hops (i * 10 + i) 0) (by omega) (fun a n1 n2 n3 n4 => by rw [ab_up_o n2, ab_up_o n1]; exact hJ a n1 n2 n3 n4) (fun x y hx hy => by
        have h := hw x y hx hy
        by_cases e : x = i ∧ y = i
        · rw [e.1, e.2] at h ⊢
          rw [if_neg (fun h => by omega)] at h
          rw [if_pos ⟨rfl, by omega⟩]
          refine ⟨?_, ?_, ?_, ?_⟩
          · rw [ab_up_o (by decide), ab_up_i, pk_us]; rfl
          · rw [ab_up_i, pk_us]; rfl
          · rw [ab_up_o (by decide), ab_up_o (by decide)]; exact h.2.2.1
          · rw [ab_up_o (by decide), ab_up_o (by decide)]; exact h.2.2.2
        · have e' : (if x = y ∧ x < i + 1 then some ([] : List Nat) else none) = if x = y ∧ x < i then some [] else none := by
            by_cases g : x = y ∧ x < i
            · rw [if_pos g, if_pos ⟨g.1, by omega⟩]
            · rw [if_neg g, if_neg (fun g' => by omega)]
          rw [e']
          have ne : ¬ x * 10 + y = i * 10 + i := by omega
          refine ⟨?_, ?_, ?_, ?_⟩
          · rw [ab_up_o (by decide), ab_up_i, pk_un ne]; exact h.1
          · rw [ab_up_i, pk_un ne, ab_up_o (by decide)]; exact h.2.1
          · rw [ab_up_o (by decide), ab_up_o (by decide)]; exact h.2.2.1
          · rw [ab_up_o (by decide), ab_up_o (by decide)]; exact h.2.2.2)
      refine ⟨J', g1, g2, ?_⟩
      refine r_Ways_trace_55 hT _ (Nat.le_refl _) (Nat.le_refl _) ?_
      simp (disch := first | omega | decide) only [q0, hiS, nl_add1, nl_add2, nl_mul1, nl_mul2, nl_sub1, nl_lt1, nl_lt2, nl_le1, nl_le2, nl_eq1, nl_eq2, nl_m1, nl_m2, nl_inT, nI_add, nI_mul, nI_leI, nI_ltI, nI_eq, nI_clamp, nl_bit, oI_n, oI_s, oI_m1, true_and, and_true, eq_self, Bool.false_eq_true, not_false_eq_true, not_true_eq_false, false_implies, true_implies, implies_true, forall_const, Nat.not_lt_zero, ab_row_eq, ab_row_ne, ab_up_i, ab_up_o, pk_us, pk_un, ab_row_row]
      exact g3
  have first : ∀ m i (J : Nat → Nat → Int32), i + m = 100 → wfr J I0 → (∀ k, k < i → J kx_ways_span k = -1 ∧ J kx_ways_hops k = -1 ∧ J kx_ways_step k = -1 ∧ J kx_ways_dearest k = -1) → ∃ J', wfr J' I0 ∧ wyC e1 e2 pr S T.reverse J' ∧ ab_E w ((d + 2) + 1) mt_Ways_trace 10 [.ref kx_ways, .ref kx_now_cables, .ref kx_forest, .int (nI i)] [] (J, L, ab_RR, n, nc, ns) (.inl none, (J', L, ab_RR, n, nc, ns)) := by
    intro m
    induction m with
    | zero =>
      intro i J hi hJ hw
      obtain ⟨J', g1, g2, g3⟩ := second S 0 J (by omega) hJ (fun x y hx hy => by
        rw [if_neg (fun h => absurd h.2 (Nat.not_lt_zero _))]
        exact hw (x * 10 + y) (by omega))
      refine ⟨J', g1, g2, ?_⟩
      have hi1 : 100 ≤ i := by omega
      refine r_Ways_trace_10 hT _ (Nat.le_refl _) (Nat.le_refl _) ?_
      simp (disch := first | omega | decide) only [hi1, nl_add1, nl_add2, nl_mul1, nl_mul2, nl_sub1, nl_lt1, nl_lt2, nl_le1, nl_le2, nl_eq1, nl_eq2, nl_m1, nl_m2, nl_inT, nI_add, nI_mul, nI_leI, nI_ltI, nI_eq, nI_clamp, nl_bit, oI_n, oI_s, oI_m1, true_and, and_true, eq_self, Bool.false_eq_true, not_false_eq_true, not_true_eq_false, false_implies, true_implies, implies_true, forall_const, Nat.not_lt_zero, ab_row_eq, ab_row_ne, ab_up_i, ab_up_o, pk_us, pk_un, ab_row_row]
      exact g3
    | succ m ih =>
      intro i J hi hJ hw
      have hi1 : ¬ 100 ≤ i := by omega
      obtain ⟨J', g1, g2, g3⟩ := ih (i + 1) (ab_up (ab_up (ab_up (ab_up J kx_ways_span i (-1)) kx_ways_hops i (-1)) kx_ways_step i (-1)) kx_ways_dearest i (-1)) (by omega) (fun a n1 n2 n3 n4 => by rw [ab_up_o n4, ab_up_o n3, ab_up_o n2, ab_up_o n1]; exact hJ a n1 n2 n3 n4) (fun k hk => by
        rw [ab_up_o (by decide), ab_up_o (by decide), ab_up_o (by decide), ab_up_i, ab_up_o (by decide), ab_up_o (by decide), ab_up_i, ab_up_o (by decide), ab_up_o (by decide), ab_up_i, ab_up_o (by decide), ab_up_o (by decide), ab_up_i, ab_up_o (by decide), ab_up_o (by decide), ab_up_o (by decide)]
        by_cases e : k = i
        · rw [e, pk_us, pk_us, pk_us, pk_us]; exact ⟨rfl, rfl, rfl, rfl⟩
        · rw [pk_un e, pk_un e, pk_un e, pk_un e]; exact hw k (by omega))
      refine ⟨J', g1, g2, ?_⟩
      refine r_Ways_trace_10 hT _ (Nat.le_refl _) (Nat.le_refl _) ?_
      simp (disch := first | omega | decide) only [hi1, nl_add1, nl_add2, nl_mul1, nl_mul2, nl_sub1, nl_lt1, nl_lt2, nl_le1, nl_le2, nl_eq1, nl_eq2, nl_m1, nl_m2, nl_inT, nI_add, nI_mul, nI_leI, nI_ltI, nI_eq, nI_clamp, nl_bit, oI_n, oI_s, oI_m1, true_and, and_true, eq_self, Bool.false_eq_true, not_false_eq_true, not_true_eq_false, false_implies, true_implies, implies_true, forall_const, Nat.not_lt_zero, ab_row_eq, ab_row_ne, ab_up_i, ab_up_o, pk_us, pk_un, ab_row_row]
      exact g3
  obtain ⟨J', g1, g2, g3⟩ := first 100 0 I0 (by omega) (fun _ _ _ _ _ => rfl) (fun k hk => absurd hk (Nat.not_lt_zero k))
  refine ⟨J', fun a n0 n1 n2 n3 n4 => by rw [g1 a n1 n2 n3 n4, hI0o a n0], by rw [g1 _ (by decide) (by decide) (by decide) (by decide)]; exact hw0, g2, ?_⟩
  refine ab_C_of (by decide) rfl (Nat.le_of_ble_eq_true rfl) hT ?_
  refine r_Ways_trace_0 hT (Nat.le_refl _) (Nat.le_refl _) ?_
  rw [p1, hI0]
  exact g3
/-- THE NET and its ways lie in the class's cells -/
def kN (I : Nat → Nat → Int32) (S : Nat) (e1 e2 pr : Nat → Nat) (s : List Nat × (Nat → Nat)) : Prop :=
  I kx_forest 1 = nI s.1.length ∧ (∀ k, k < 32 → bt (I kx_forest 2) k = decide (k ∈ s.1)) ∧ I kx_forest 3 = nI (s.1.map pr).sum ∧ I kx_forest 4 = nI (S - s.1.length) ∧ (∀ j, j < s.1.length → I kx_forest_order j = nI (s.1.getD j 0)) ∧ (∀ x, x < 10 → I kx_forest_piece x = nI (s.2 x)) ∧ I kx_ways 0 = nI S ∧ wyC e1 e2 pr S s.1.reverse I
/-- the cells of THE NET and its ways -/
def knc (a : Nat) : Prop := a = kx_forest ∨ a = kx_forest_order ∨ a = kx_forest_piece ∨ a = kx_ways ∨ a = kx_ways_span ∨ a = kx_ways_hops ∨ a = kx_ways_step ∨ a = kx_ways_dearest
theorem kp_net (hp : gr_pre I kx_now_cables kx_now_cables_first kx_now_cables_second kx_now_cables_price kx_now_cables_order S N e1 e2 pr l) (hl : od pr N l) (h0 : 0 < S) (am : Nat → Bool) : (∀ k ∈ (kr e1 e2 (l.filter am)).1, k < N) ∧ fo e1 e2 (kr e1 e2 (l.filter am)).1.reverse ∧ (kr e1 e2 (l.filter am)).1.Pairwise (ch pr) ∧ (kr e1 e2 (l.filter am)).1.length + 1 ≤ S := by
  obtain ⟨p1, p2, p3, p4, p5, p6, p7, p8⟩ := hp
  have hew : ew e1 e2 S (l.filter am) := fun k hk => by
    have := p7 k (List.mem_filter.mp hk).1
    exact ⟨(p8 k this).2.2.2.1, (p8 k this).2.2.2.2.1⟩
  have hf := kr_fo _ hew
  refine ⟨fun k hk => p7 k (List.mem_filter.mp (kr_sub _ k hk)).1, hf, (hl.1.filter am).sublist (kr_subl _), ?_⟩
  have := fo_len (S := S) _ hf (fun k hk => hew k (kr_sub _ k (List.mem_reverse.mp hk))) h0
  rwa [List.length_reverse] at this
theorem k_retrace (hT : w.1.stackTraces = false) (hc : kC I S N sd e1 e2 pr fm l) {I0 : Nat → Nat → Int32} (hg : gr_st I I0 kx_forest kx_forest_order kx_forest_piece S pr (kr e1 e2 (l.filter sd))) :
    ∃ J, (∀ a, a ≠ kx_ways → a ≠ kx_ways_span → a ≠ kx_ways_hops → a ≠ kx_ways_step → a ≠ kx_ways_dearest → J a = I a) ∧ kN J S e1 e2 pr (kr e1 e2 (l.filter sd)) ∧ ab_U w (d + 3) mt_Ways_trace [.ref kx_ways, .ref kx_now_cables, .ref kx_forest] I L n nc ns J := by
  obtain ⟨k1, k2, k3, k4⟩ := kp_net hc.1 hc.2.1 (by have := hc.2.2.1; omega) sd
  have hS := hc.1.2.2.1
  obtain ⟨J, a1, a2, a3, a4⟩ := k_trace (w := w) (d := d) (n := n) (nc := nc) (ns := ns) (L := L) hT hc.1 k1 k2 k3 (by omega) hg.2.1 hg.2.2.2.2.2.1
  refine ⟨J, a1, ⟨?_, ?_, ?_, ?_, ?_, ?_, a2, a3⟩, a4⟩
  · rw [a1 _ (by decide) (by decide) (by decide) (by decide) (by decide)]; exact hg.2.1
  · rw [a1 _ (by decide) (by decide) (by decide) (by decide) (by decide)]; exact hg.2.2.1
  · rw [a1 _ (by decide) (by decide) (by decide) (by decide) (by decide)]; exact hg.2.2.2.1
  · rw [a1 _ (by decide) (by decide) (by decide) (by decide) (by decide)]; exact hg.2.2.2.2.1
  · rw [a1 _ (by decide) (by decide) (by decide) (by decide) (by decide)]; exact hg.2.2.2.2.2.1
  · rw [a1 _ (by decide) (by decide) (by decide) (by decide) (by decide)]; exact hg.2.2.2.2.2.2
end KTT
