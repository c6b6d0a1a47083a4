/-! THE MODEL: longest, centre, next best, alone, groups, weak couples, sums -/
def smf (f : Nat → Nat) : Nat → Nat
  | 0 => 0
  | k + 1 => smf f k + f k
theorem smf_le {f : Nat → Nat} {b : Nat} : ∀ {k}, (∀ j, j < k → f j ≤ b) → smf f k ≤ b * k := by
  intro k
  induction k with
  | zero => intro _; exact Nat.zero_le _
  | succ k ih => intro h; rw [smf, Nat.mul_add]; have := ih (fun j hj => h j (by omega)); have := h k (by omega); omega
theorem lgf_le {g : Nat → Nat → Nat} {b : Nat} (h : ∀ x y, g x y ≤ b) : ∀ k, lgf g k ≤ b := by
  intro k
  induction k with
  | zero => exact Nat.zero_le _
  | succ k ih => rw [lgf]; have := mxf_le (g := g k) (b := b) (k := k) (fun j _ => h k j); omega
/-- the weak couples that were met, in their order -/
def wki (W : Nat → Nat → Bool) (a b : Nat) : List (Nat × Nat) := ((List.range b).filter (fun j => decide (a < j) && W a j)).map (fun j => (a, j))
def wkl (W : Nat → Nat → Bool) (N a : Nat) : List (Nat × Nat) := (List.range a).flatMap (fun a => wki W a N)
def fst_v (q : List (Nat × Nat)) : Int32 := match q with
  | [] => -1
  | p :: _ => nI (100 * p.1 + p.2)
theorem wki_succ_t {W : Nat → Nat → Bool} {a b : Nat} (h : a < b) (hw : W a b = true) : wki W a (b + 1) = wki W a b ++ [(a, b)] := by
  unfold wki
  rw [List.range_succ, List.filter_append]
  simp [h, hw]
theorem wki_succ_f {W : Nat → Nat → Bool} {a b : Nat} (hw : ¬ (a < b ∧ W a b = true)) : wki W a (b + 1) = wki W a b := by
  unfold wki
  rw [List.range_succ, List.filter_append]
  have : [b].filter (fun j => decide (a < j) && W a j) = [] := by
    rw [List.filter_cons]
    simp
    intro h; cases hh : W a b with
    | true => exact absurd ⟨h, hh⟩ hw
    | false => rfl
  rw [this, List.append_nil]
theorem wki_0 {W : Nat → Nat → Bool} {a : Nat} : ∀ {b}, b ≤ a + 1 → wki W a b = [] := by
  intro b
  induction b with
  | zero => intro _; rfl
  | succ b ih => intro h; rw [wki_succ_f (fun g => by omega)]; exact ih (by omega)
theorem wkl_succ {W : Nat → Nat → Bool} {N a : Nat} : wkl W N (a + 1) = wkl W N a ++ wki W a N := by
  unfold wkl
  rw [List.range_succ, List.flatMap_append]; simp
theorem wki_none {W : Nat → Nat → Bool} {a : Nat} (h : ∀ b, W a b = false) : ∀ N, wki W a N = [] := by
  intro N
  induction N with
  | zero => rfl
  | succ N ih => rw [wki_succ_f (fun g => by rw [h] at g; exact absurd g.2 (by decide))]; exact ih
theorem wkl_mem {W : Nat → Nat → Bool} {N a b : Nat} (ha : a ≤ N) (hb : b ≤ N) (haN : a < N) {x : Nat × Nat} (h : x ∈ wkl W N a ++ wki W a b) : x.1 < N ∧ x.2 < N := by
  have one : ∀ {a b : Nat}, a < N → b ≤ N → x ∈ wki W a b → x.1 < N ∧ x.2 < N := by
    intro a b ha hb h
    unfold wki at h
    obtain ⟨j, hj, e⟩ := List.mem_map.mp h
    have := List.mem_range.mp (List.mem_filter.mp hj).1
    rw [← e]
    exact ⟨ha, by show j < N; omega⟩
  rcases List.mem_append.mp h with h | h
  · unfold wkl at h
    obtain ⟨j, hj, hx⟩ := List.mem_flatMap.mp h
    have := List.mem_range.mp hj
    exact one (by omega) (Nat.le_refl _) hx
  · exact one haN hb h
section MSP
variable {w : ab_Wd} {d n nc ns : Nat} {I : Nat → Nat → Int32} {L : Nat → Nat → Int64}
variable {S N : Nat} {sd : Nat → Bool} {e1 e2 pr fm : Nat → Nat} {l : List Nat}
theorem z_centre (hT : w.1.stackTraces = false) (hm : mC I S N sd e1 e2 pr fm l) : ∃ (J : Nat → Nat → Int32), mfr J I ∧ ab_PU w (d + 4) mt_M_centre [.ref mx] I L n nc ns (nI (ctf (fun s => mxf (spn e1 e2 pr (net e1 e2 sd l).reverse s) S) S)) J := by
  obtain ⟨J, r, h1, h2, h3⟩ := z_netNow (w := w) (d := d) (n := n) (nc := nc) (ns := ns) (L := L) hT hm
  have hf := mfr_nm h1
  have hS := hm.1.2.2.1
  have hS2 := hm.2.1
  generalize hg : (fun s => mxf (spn e1 e2 pr (net e1 e2 sd l).reverse s) S) = g
  have hgN : ∀ s, g s ≤ 8991 := fun s => by
    rw [← hg]; exact mxf_le (fun j _ => spn_le hm.1 (by omega) sd s j)
  have ge : ∀ s, mxf (spn e1 e2 pr (net e1 e2 sd l).reverse s) S = g s := fun s => by rw [← hg]
  have loop : ∀ m i (J : Nat → Nat → Int32), i + m = S → 1 ≤ i → mfr J I → ∃ J', mfr J' I ∧ ab_E w ((d + 3) + 1) mt_M_centre 9 [.ref mx, .int r, .int (nI (ctf g i)), .int (nI i)] [] (J, L, ab_RR, n, nc, ns) (.inl (some (.int (nI (ctf g S)))), (J', L, ab_RR, n, nc, ns)) := by
    intro m
    induction m with
    | zero =>
      intro i J hi hi1 hJ
      have e : i = S := by omega
      subst e
      refine ⟨J, hJ, ?_⟩
      refine r_M_centre_9 hT _ _ _ (Nat.le_refl _) (Nat.le_refl _) ?_
      refine bb_t ?_ rfl
      rw [mfr_2 hJ, hm.1.1]; exact nI_le (Nat.le_refl _) (by omega)
    | succ m ih =>
      intro i J hi hi1 hJ
      have hm' := mC_fr hJ hm
      have hlt := ctf_lt g i (by omega)
      obtain ⟨J2, a1, a2⟩ := z_farthest (w := w) (d := d + 1) (n := n) (nc := nc) (ns := ns) (L := L) hT hm' h2 (s := i) (by omega)
      obtain ⟨J3, b1, b2⟩ := z_farthest (w := w) (d := d + 1) (n := n) (nc := nc) (ns := ns) (L := L) hT (mC_fr a1 hm') h2 (s := ctf g i) (by omega)
      obtain ⟨J', g1, g2⟩ := ih (i + 1) J3 (by omega) (by omega) (mfr_trans b1 (mfr_trans a1 hJ))
      refine ⟨J', g1, ?_⟩
      rw [ge] at a2 b2
      have l1 := hgN i
      have l2 := hgN (ctf g i)
      refine r_M_centre_9 hT _ _ _ (Nat.le_refl _) (Nat.le_refl _) ?_
      refine bb_f (by rw [hm'.1.1]; exact nI_ge (by omega) (by omega)) ⟨_, J2, a2, _, J3, b2, ?_⟩
      rw [nI_leI (by omega) (by omega), nI_1]
      rw [ctf] at g2
      refine ⟨fun h => ?_, fun h => ?_⟩
      · rw [if_neg (by omega)] at g2; exact g2
      · rw [if_pos (by omega)] at g2; exact g2
  have z1 : ctf g 1 = 0 := by
    rw [ctf, ctf]; split <;> rfl
  obtain ⟨J', g1, g2⟩ := loop (S - 1) 1 J (by omega) (Nat.le_refl _) hf
  rw [z1] at g2
  refine ⟨J', g1, ?_⟩
  refine ab_C_of (by decide) rfl (Nat.le_of_ble_eq_true rfl) hT ?_
  refine r_M_centre_0 hT (Nat.le_refl _) (Nat.le_refl _) ?_
  exact ⟨r, J, h3, g2⟩
theorem z_longest (hT : w.1.stackTraces = false) (hm : mC I S N sd e1 e2 pr fm l) : ∃ (J : Nat → Nat → Int32), mfr J I ∧ ab_PU w (d + 4) mt_M_longest [.ref mx] I L n nc ns (nI (lgf (spn e1 e2 pr (net e1 e2 sd l).reverse) S)) J := by
  obtain ⟨J, r, h1, h2, h3⟩ := z_netNow (w := w) (d := d) (n := n) (nc := nc) (ns := ns) (L := L) hT hm
  have hf := mfr_nm h1
  have hS := hm.1.2.2.1
  have hS2 := hm.2.1
  have hgN : ∀ x y, spn e1 e2 pr (net e1 e2 sd l).reverse x y ≤ 8991 := fun x y => spn_le hm.1 (by omega) sd x y
  generalize hg : spn e1 e2 pr (net e1 e2 sd l).reverse = g at hgN
  have outer : ∀ m a (J : Nat → Nat → Int32), a + m = S → mfr J I → ∃ J', mfr J' I ∧ ab_E w ((d + 3) + 1) mt_M_longest 9 [.ref mx, .int r, .int (nI (lgf g a)), .int (nI a), .null] [] (J, L, ab_RR, n, nc, ns) (.inl (some (.int (nI (lgf g S)))), (J', L, ab_RR, n, nc, ns)) := by
    intro m
    induction m with
    | zero =>
      intro a J ha hJ
      have e : a = S := by omega
      subst e
      refine ⟨J, hJ, ?_⟩
      refine r_M_longest_9 hT _ _ _ (Nat.le_refl _) (Nat.le_refl _) ?_
      refine bb_t ?_ rfl
      rw [mfr_2 hJ, hm.1.1]; exact nI_le (Nat.le_refl _) (by omega)
    | succ m ih =>
      intro a J ha hJ
      have inner : ∀ q b (J : Nat → Nat → Int32), b + q = a → mfr J I → ∃ J', mfr J' I ∧ ab_E w ((d + 3) + 1) mt_M_longest 20 [.ref mx, .int r, .int (nI (max (lgf g a) (mxf (g a) b))), .int (nI a), .int (nI b)] [] (J, L, ab_RR, n, nc, ns) (.inl (some (.int (nI (lgf g S)))), (J', L, ab_RR, n, nc, ns)) := by
        intro q
        induction q with
        | zero =>
          intro b J hb hJ
          have e : b = a := by omega
          subst e
          obtain ⟨J', g1, g2⟩ := ih (b + 1) J (by omega) hJ
          refine ⟨J', g1, ?_⟩
          refine r_M_longest_20 hT _ _ _ _ (Nat.le_refl _) (Nat.le_refl _) ?_
          refine bb_t (nI_le (Nat.le_refl _) (by omega)) ?_
          rw [nI_1]; rw [lgf] at g2; exact g2
        | succ q ihq =>
          intro b J hb hJ
          have hm' := mC_fr hJ hm
          obtain ⟨J2, r2, a1, a0, a2, a3⟩ := z_wayN (w := w) (d := d + 2) (n := n) (nc := nc) (ns := ns) (L := L) (a := a) (b := b) hT hm' h2 (by omega) (by omega)
          obtain ⟨J', g1, g2⟩ := ihq (b + 1) J2 (by omega) (mfr_trans a1 hJ)
          refine ⟨J', g1, ?_⟩
          have b1 := lgf_le hgN a
          have b2 := mxf_le (g := g a) (b := 8991) (k := b) (fun j _ => hgN a j)
          have b3 := hgN a b
          refine r_M_longest_20 hT _ _ _ _ (Nat.le_refl _) (Nat.le_refl _) ?_
          refine bb_f (nI_ge (by omega) (by omega)) ⟨r2, J2, a3, ?_⟩
          rw [nI_1]
          rw [mxf] at g2
          rcases a2 with ⟨p, c1, c2, c3⟩ | ⟨c1, c2, c3⟩
          · have y := z_prices (w := w) (d := d + 2) (n := n) (nc := nc) (ns := ns) (L := L) hT (nm_fr a1 hm'.1) c3
            have es : g a b = (p.map pr).sum := by rw [← hg]; unfold spn; rw [c1]
            rw [es] at b3 g2
            refine ⟨fun e => absurd (c2 ▸ e) (nI_m1 (by have := c3.2.1; omega)), fun _ => ⟨_, y, ?_⟩⟩
            rw [ab_max_nI (by omega) (by omega), Nat.max_assoc]; exact g2
          · have es : g a b = 0 := by rw [← hg]; unfold spn; rw [c1]
            rw [es, Nat.max_eq_left (Nat.zero_le (mxf (g a) b))] at g2
            exact ⟨fun _ => g2, fun e => absurd c2 e⟩
      obtain ⟨J', g1, g2⟩ := inner a 0 J (by omega) hJ
      refine ⟨J', g1, ?_⟩
      refine r_M_longest_9 hT _ _ _ (Nat.le_refl _) (Nat.le_refl _) ?_
      refine bb_f (by rw [mfr_2 hJ, hm.1.1]; exact nI_ge (by omega) (by omega)) ?_
      rw [mxf, Nat.max_eq_left (Nat.zero_le _)] at g2
      exact g2
  obtain ⟨J', g1, g2⟩ := outer S 0 J (by omega) hf
  refine ⟨J', g1, ?_⟩
  refine ab_C_of (by decide) rfl (Nat.le_of_ble_eq_true rfl) hT ?_
  refine r_M_longest_0 hT (Nat.le_refl _) (Nat.le_refl _) ?_
  exact ⟨r, J, h3, g2⟩
theorem z_nextBest (hT : w.1.stackTraces = false) (hm : mC I S N sd e1 e2 pr fm l) : ∃ (J : Nat → Nat → Int32), mfr J I ∧ ab_PU w (d + 4) mt_M_nextBest [.ref mx] I L n nc ns (nbf (nbV e1 e2 pr (net e1 e2 sd l) ((net e1 e2 sd l).map pr).sum) (fun k => sd k && !decide (k ∈ net e1 e2 sd l)) N) J := by
  obtain ⟨J, r, h1, h2, h3⟩ := z_netNow (w := w) (d := d) (n := n) (nc := nc) (ns := ns) (L := L) hT hm
  have hf := mfr_nm h1
  have hN := hm.1.2.2.2.1
  have t2 : J mx 22 = nI ((net e1 e2 sd l).map pr).sum := h1.2.2.2.1
  generalize htt : ((net e1 e2 sd l).map pr).sum = tt at *
  generalize hV : nbV e1 e2 pr (net e1 e2 sd l) tt = V
  generalize ho : (fun k => sd k && !decide (k ∈ net e1 e2 sd l)) = out
  have loop : ∀ m i (J : Nat → Nat → Int32), i + m = N → mfr J I → ∃ J', mfr J' I ∧ ab_E w ((d + 3) + 1) mt_M_nextBest 15 [.ref mx, .int r, .int (nI tt), .int (nbf V out i), .int (nI i), .null, .null] [] (J, L, ab_RR, n, nc, ns) (.inl (some (.int (nbf V out N))), (J', L, ab_RR, n, nc, ns)) := by
    intro m
    induction m with
    | zero =>
      intro i J hi hJ
      have e : i = N := by omega
      subst e
      refine ⟨J, hJ, ?_⟩
      refine r_M_nextBest_15 hT _ _ _ _ (Nat.le_refl _) (Nat.le_refl _) ?_
      refine bb_t ?_ rfl
      rw [mfr_now hJ, hm.1.2.1]; exact nI_le (Nat.le_refl _) (by omega)
    | succ m ih =>
      intro i J hi hJ
      have hm' := mC_fr hJ hm
      have p2 := hm'.1.2.1
      have hiN : ¬ N ≤ i := by omega
      have hsi := hm'.2.2.1 i (by omega)
      have hri := h2 i (by omega)
      by_cases hs : sd i = true
      · by_cases hk : i ∈ net e1 e2 sd l
        · obtain ⟨J', g1, g2⟩ := ih (i + 1) J (by omega) hJ
          refine ⟨J', g1, ?_⟩
          rw [nbf, if_neg (by rw [← ho]; simp [hk])] at g2
          refine r_M_nextBest_15 hT _ _ _ _ (Nat.le_refl _) (Nat.le_refl _) ?_
          simp (disch := first | omega | decide) only [p2, hiN, hsi, hs, hri, hk, decide_true, nl_add1, nl_add2, nl_mul1, nl_mul2, nl_sub1, nl_lt1, nl_lt2, nl_le1, nl_le2, nl_eq1, nl_eq2, nl_m1, nl_m2, nl_inT, nI_add, nI_mul, nI_leI, nI_ltI, nI_eq, nI_clamp, nl_bit, oI_n, oI_s, oI_m1, true_and, and_true, eq_self, Bool.false_eq_true, not_false_eq_true, not_true_eq_false, false_implies, true_implies, implies_true, forall_const, Nat.not_lt_zero, ab_row_eq, ab_row_ne, ab_up_i, ab_up_o, pk_us, pk_un, ab_row_row]
          exact g2
        · obtain ⟨J2, p, a1, a2, a3, a4, a5⟩ := z_tellRing (w := w) (d := d + 1) (n := n) (nc := nc) (ns := ns) (L := L) hT hm' h2 (k := i) (by omega)
          obtain ⟨a6, a7⟩ := a3 hs hk
          obtain ⟨r2, c1, c2⟩ := z_dearest (w := w) (d := d + 1) (n := n) (nc := nc) (ns := ns) (L := L) hT (nm_fr a1 hm'.1) a2
          obtain ⟨J', g1, g2⟩ := ih (i + 1) J2 (by omega) (mfr_trans a1 hJ)
          refine ⟨J', g1, ?_⟩
          rcases c1 with ⟨e, -⟩ | ⟨c, c3, c4⟩
          · exact absurd e a7
          · have hcN := a2.2.2.2 c c3.1
            have q3 := (hm.1.2.2.2.2.2 i (by omega)).2.2.1
            have u3 := (hm.1.2.2.2.2.2 c hcN).2.2.1
            rw [← mfr_now hJ, ← mfr_now a1] at q3 u3
            have hVi : V i = nI tt + nI (pr i) - nI (pr c) := by
              rw [← hV]; unfold nbV; rw [a6]
              show _ - nI (pr (dmx pr p)) = _
              rw [dmx_eq c3]
            rw [nbf, if_pos (by rw [← ho]; simp [hs, hk]), hVi] at g2
            subst c4
            refine r_M_nextBest_15 hT _ _ _ _ (Nat.le_refl _) (Nat.le_refl _) ?_
            simp (disch := first | omega | decide) only [p2, hiN, hsi, hs, hri, hk, decide_false, nl_add1, nl_add2, nl_mul1, nl_mul2, nl_sub1, nl_lt1, nl_lt2, nl_le1, nl_le2, nl_eq1, nl_eq2, nl_m1, nl_m2, nl_inT, nI_add, nI_mul, nI_leI, nI_ltI, nI_eq, nI_clamp, nl_bit, oI_n, oI_s, oI_m1, true_and, and_true, eq_self, Bool.false_eq_true, not_false_eq_true, not_true_eq_false, false_implies, true_implies, implies_true, forall_const, Nat.not_lt_zero, ab_row_eq, ab_row_ne, ab_up_i, ab_up_o, pk_us, pk_un, ab_row_row]
            refine ⟨_, J2, a5, _, c2, ?_, ?_⟩
            · rw [nl_add2]; exact vp_in_nI (by omega) (by omega)
            · simp (disch := first | omega | decide) only [q3, u3, nl_add1, nl_add2, nl_mul1, nl_mul2, nl_sub1, nl_lt1, nl_lt2, nl_le1, nl_le2, nl_eq1, nl_eq2, nl_m1, nl_m2, nl_inT, nI_add, nI_mul, nI_leI, nI_ltI, nI_eq, nI_clamp, nl_bit, oI_n, oI_s, oI_m1, true_and, and_true, eq_self, Bool.false_eq_true, not_false_eq_true, not_true_eq_false, false_implies, true_implies, implies_true, forall_const, Nat.not_lt_zero, ab_row_eq, ab_row_ne, ab_up_i, ab_up_o, pk_us, pk_un, ab_row_row]
              refine ⟨fun e => ?_, fun e => ?_⟩
              · rw [if_neg e] at g2; rw [nI_add] at g2; exact g2
              · rw [if_pos e] at g2; rw [nI_add] at g2; exact g2
      · obtain ⟨J', g1, g2⟩ := ih (i + 1) J (by omega) hJ
        refine ⟨J', g1, ?_⟩
        rw [nbf, if_neg (by rw [← ho]; simp [hs])] at g2
        refine r_M_nextBest_15 hT _ _ _ _ (Nat.le_refl _) (Nat.le_refl _) ?_
        simp (disch := first | omega | decide) only [p2, hiN, hsi, hs, nl_add1, nl_add2, nl_mul1, nl_mul2, nl_sub1, nl_lt1, nl_lt2, nl_le1, nl_le2, nl_eq1, nl_eq2, nl_m1, nl_m2, nl_inT, nI_add, nI_mul, nI_leI, nI_ltI, nI_eq, nI_clamp, nl_bit, oI_n, oI_s, oI_m1, true_and, and_true, eq_self, Bool.false_eq_true, not_false_eq_true, not_true_eq_false, false_implies, true_implies, implies_true, forall_const, Nat.not_lt_zero, ab_row_eq, ab_row_ne, ab_up_i, ab_up_o, pk_us, pk_un, ab_row_row]
        exact g2
  obtain ⟨J', g1, g2⟩ := loop N 0 J (by omega) hf
  refine ⟨J', g1, ?_⟩
  refine ab_C_of (by decide) rfl (Nat.le_of_ble_eq_true rfl) hT ?_
  refine r_M_nextBest_0 hT (Nat.le_refl _) (Nat.le_refl _) ?_
  refine ⟨r, J, h3, ?_⟩
  rw [t2]; exact g2
theorem z_pricesOf (hT : w.1.stackTraces = false) (hp : nm_pre I S N e1 e2 pr l) {v : Int32} {am : Nat → Bool} (hv : ∀ k, k < 32 → bt v k = am k) : ab_P w (d + 1) mt_M_pricesOf [.ref mx, .int v] I L n nc ns (nI (smf (fun k => if am k = true then pr k else 0) N)) := by
  obtain ⟨p1, p2, p3, p4, p5, p6⟩ := hp
  refine ab_C_of (by decide) rfl (Nat.le_of_ble_eq_true rfl) hT ?_
  refine r_M_pricesOf_0 hT _ (Nat.le_refl _) (Nat.le_refl _) ?_
  refine up_ind (N := N) (E := fun i => ab_E w (d + 1) mt_M_pricesOf 4 [.ref mx, .int v, .int (nI (smf (fun k => if am k = true then pr k else 0) i)), .int (nI i)] [] (I, L, ab_RR, n, nc, ns) (.inl (some (.int (nI (smf (fun k => if am k = true then pr k else 0) N)))), (I, L, ab_RR, n, nc, ns))) ?_ ?_ 0 (Nat.zero_le _)
  · refine r_M_pricesOf_4 hT _ _ _ (Nat.le_refl _) (Nat.le_refl _) ?_
    refine bb_t ?_ rfl
    rw [p2]; exact nI_le (Nat.le_refl _) (by omega)
  · intro i hi nx
    obtain ⟨q1, q2, q3, q4, q5, q6⟩ := p6 i hi
    have hiN : ¬ N ≤ i := by omega
    have hvi := hv i (by omega)
    rw [smf] at nx
    refine r_M_pricesOf_4 hT _ _ _ (Nat.le_refl _) (Nat.le_refl _) ?_
    simp (disch := first | omega | decide) only [p2, hiN, hvi, q3, nl_add1, nl_add2, nl_mul1, nl_mul2, nl_sub1, nl_lt1, nl_lt2, nl_le1, nl_le2, nl_eq1, nl_eq2, nl_m1, nl_m2, nl_inT, nI_add, nI_mul, nI_leI, nI_ltI, nI_eq, nI_clamp, nl_bit, oI_n, oI_s, oI_m1, true_and, and_true, eq_self, Bool.false_eq_true, not_false_eq_true, not_true_eq_false, false_implies, true_implies, implies_true, forall_const, Nat.not_lt_zero, ab_row_eq, ab_row_ne, ab_up_i, ab_up_o, pk_us, pk_un, ab_row_row]
    refine ⟨fun ha => ?_, fun ha => ?_⟩
    · rw [if_pos ha] at nx; exact nx
    · rw [if_neg ha] at nx; exact nx
theorem z_soundOf (hT : w.1.stackTraces = false) (hm : mC I S N sd e1 e2 pr fm l) {f : Nat} (hf : f < 4) : ab_P w (d + 1) mt_M_soundOf [.ref mx, .int (nI f)] I L n nc ns (ab_mask N (fun k => sd k && decide (fm k = f))) := by
  obtain ⟨⟨p1, p2, p3, p4, p5, p6⟩, m2, m3, m4, m5⟩ := hm
  refine ab_C_of (by decide) rfl (Nat.le_of_ble_eq_true rfl) hT ?_
  refine r_M_soundOf_0 hT _ (Nat.le_refl _) (Nat.le_refl _) ?_
  refine up_ind (N := N) (E := fun i => ab_E w (d + 1) mt_M_soundOf 4 [.ref mx, .int (nI f), .int (ab_mask i (fun k => sd k && decide (fm k = f))), .int (nI i)] [] (I, L, ab_RR, n, nc, ns) (.inl (some (.int (ab_mask N (fun k => sd k && decide (fm k = f))))), (I, L, ab_RR, n, nc, ns))) ?_ ?_ 0 (Nat.zero_le _)
  · refine r_M_soundOf_4 hT _ _ _ (Nat.le_refl _) (Nat.le_refl _) ?_
    refine bb_t ?_ rfl
    rw [p2]; exact nI_le (Nat.le_refl _) (by omega)
  · intro i hi nx
    obtain ⟨q1, q2, q3, q4⟩ := m5 i hi
    have hiN : ¬ N ≤ i := by omega
    have hsi := m3 i (by omega)
    refine r_M_soundOf_4 hT _ _ _ (Nat.le_refl _) (Nat.le_refl _) ?_
    simp (disch := first | omega | decide) only [p2, hiN, hsi, q1, Int32.or_zero, nl_add1, nl_add2, nl_mul1, nl_mul2, nl_sub1, nl_lt1, nl_lt2, nl_le1, nl_le2, nl_eq1, nl_eq2, nl_m1, nl_m2, nl_inT, nI_add, nI_mul, nI_leI, nI_ltI, nI_eq, nI_clamp, nl_bit, oI_n, oI_s, oI_m1, true_and, and_true, eq_self, Bool.false_eq_true, not_false_eq_true, not_true_eq_false, false_implies, true_implies, implies_true, forall_const, Nat.not_lt_zero, ab_row_eq, ab_row_ne, ab_up_i, ab_up_o, pk_us, pk_un, ab_row_row]
    refine ⟨fun ha => ⟨fun e => ?_, fun e => ?_⟩, fun ha => ?_⟩
    · rw [ab_mask_not (by simp [e])]; exact nx
    · rw [ab_mask_put (by omega) (by simp [ha, e])]; exact nx
    · rw [ab_mask_not (by simp [ha])]; exact nx
theorem net_nodup (hp : nm_pre I S N e1 e2 pr l) (am : Nat → Bool) : (net e1 e2 am l).Nodup := (kr_subl _).nodup ((od_nodup hp.2.2.2.2.1).filter am)
theorem z_leftFor (hT : w.1.stackTraces = false) {k : Nat} (hm : mC I S N sd e1 e2 pr fm l) (h1k : 1 ≤ k) (hk : k ≤ S) : ∃ (J : Nat → Nat → Int32) (r : Int32), mfr J I ∧ (∀ j, j < 32 → bt r j = decide (j ∈ (net e1 e2 sd l).take (S - k))) ∧ J mx 33 = (if S - k < (net e1 e2 sd l).length then nI ((net e1 e2 sd l).getD (S - k) 0) else -1) ∧ ab_PU w (d + 4) mt_M_leftFor [.ref mx, .int (nI k)] I L n nc ns r J := by
  obtain ⟨J, r, h1, h2, h3⟩ := z_netNow (w := w) (d := d) (n := n) (nc := nc) (ns := ns) (L := L) hT hm
  have hf := mfr_nm h1
  have hS := hm.1.2.2.1
  have hN := hm.1.2.2.2.1
  have t1 : J mx 21 = nI (net e1 e2 sd l).length := h1.2.2.1
  have t5 : ∀ j, j < (net e1 e2 sd l).length → J mx_taken j = nI ((net e1 e2 sd l).getD j 0) := h1.2.2.2.2.1
  have hnd := net_nodup hm.1 sd
  have hle := net_le hm.1 sd
  have hlt : ∀ c ∈ net e1 e2 sd l, c < N := fun c hc => (net_lt hm.1 hc).1
  generalize net e1 e2 sd l = T at *
  have loop : ∀ m (K : Nat → Nat → Int32) (v : Int32), m ≤ T.length → mfr K I → K mx_taken = J mx_taken → (∀ j, j < 32 → bt v j = decide (j ∈ T.take m)) → (m = T.length ∨ S - k ≤ m) → K mx 33 = (if m < T.length then nI (T.getD m 0) else -1) →
      ∃ (J' : Nat → Nat → Int32) (r : Int32), mfr J' I ∧ (∀ j, j < 32 → bt r j = decide (j ∈ T.take (S - k))) ∧ J' mx 33 = (if S - k < T.length then nI (T.getD (S - k) 0) else -1) ∧ ab_E w ((d + 3) + 1) mt_M_leftFor 17 [.ref mx, .int (nI k), .int v, .int (nI m - 1)] [] (K, L, ab_RR, n, nc, ns) (.inl (some (.int r)), (J', L, ab_RR, n, nc, ns)) := by
    have stop : ∀ m (K : Nat → Nat → Int32) (v : Int32), (∀ j, j < 32 → bt v j = decide (j ∈ T.take m)) → (m = T.length ∨ S - k ≤ m) → m ≤ S - k → K mx 33 = (if m < T.length then nI (T.getD m 0) else -1) → (∀ j, j < 32 → bt v j = decide (j ∈ T.take (S - k))) ∧ K mx 33 = (if S - k < T.length then nI (T.getD (S - k) 0) else -1) := by
      intro m K v hv hmk hle' h33
      rcases hmk with e | e
      · rw [if_neg (by omega)] at h33
        rw [if_neg (by omega)]
        refine ⟨fun j hj => ?_, h33⟩
        rw [hv j hj, List.take_of_length_le (by omega), List.take_of_length_le (by omega)]
      · have : m = S - k := by omega
        subst this
        exact ⟨hv, h33⟩
    intro m
    induction m with
    | zero =>
      intro K v hmT hK htk hv hmk h33
      obtain ⟨s1, s2⟩ := stop 0 K v hv hmk (Nat.zero_le _) h33
      refine ⟨K, v, hK, s1, s2, ?_⟩
      refine r_M_leftFor_17 hT _ _ _ (Nat.le_refl _) (Nat.le_refl _) ?_
      exact bb_t (by decide) rfl
    | succ m ih =>
      intro K v hmT hK htk hv hmk h33
      have e1 : nI (m + 1) - 1 = nI m := nI_pred m
      have e2 : K mx 2 = nI S := by rw [mfr_2 hK]; exact hm.1.1
      have e3 : nI S - nI m - 1 = nI (S - m - 1) := by rw [nI_sub (by omega)]; exact nI_sub (b := 1) (by omega)
      rw [e1]
      by_cases hst : m + 1 ≤ S - k
      · obtain ⟨s1, s2⟩ := stop (m + 1) K v hv hmk hst h33
        refine ⟨K, v, hK, s1, s2, ?_⟩
        refine r_M_leftFor_17 hT _ _ _ (Nat.le_refl _) (Nat.le_refl _) ?_
        refine bb_f (nI_pos (by omega)) (bb_t ?_ rfl)
        rw [e2, e3]; exact nI_le (by omega) (by omega)
      · have htm : K mx_taken m = nI (T.getD m 0) := by rw [htk]; exact t5 m (by omega)
        have hmem := getD_mem (Q := T) (j := m) (by omega)
        have hcN := hlt _ hmem
        have hts := take_snoc (p := T) (i := m) (by omega)
        have hnot : T.getD m 0 ∉ T.take m := by
          intro h
          have h9 := hnd.sublist (List.take_sublist (m + 1) T)
          rw [hts] at h9
          exact (List.nodup_append.mp h9).2.2 _ h _ List.mem_cons_self rfl
        obtain ⟨J', r, g1, g2, g3, g4⟩ := ih (ab_up K mx 33 (nI (T.getD m 0))) (v &&& (((1 : Int32) <<< (nI (T.getD m 0) &&& 31)) ^^^ (-1))) (by omega) (mfr_upx hK (by unfold mkf; decide)) (by rw [ab_up_o (by decide)]; exact htk) (fun j hj => by
          rw [b_and, hv j hj, ab_bnot _ hj, ab_sh1 (by omega) hj, hts]
          generalize T.getD m 0 = x at *
          by_cases e : j = x
          · subst e; simp [hnot]
          · simp [e]) (Or.inr (by omega)) (by rw [ab_up_i, pk_us, if_pos (by omega)])
        refine ⟨J', r, g1, g2, g3, ?_⟩
        refine r_M_leftFor_17 hT _ _ _ (Nat.le_refl _) (Nat.le_refl _) ?_
        refine bb_f (nI_pos (by omega)) (bb_f ?_ ⟨vp_in_nI (by omega) (by omega), ?_⟩)
        · rw [e2, e3]; exact nI_ge (by omega) (by omega)
        · rw [nI_clamp (by omega), htm, i32_addm1]; exact g4
  obtain ⟨J', r', g1, g2, g3, g4⟩ := loop T.length (ab_up J mx 33 (-1)) r (Nat.le_refl _) (mfr_upx hf (by unfold mkf; decide)) (by rw [ab_up_o (by decide)]) (fun j hj => by rw [h2 j hj, List.take_length]) (Or.inl rfl) (by rw [ab_up_i, pk_us, if_neg (by omega)])
  refine ⟨J', r', g1, g2, g3, ?_⟩
  refine ab_C_of (by decide) rfl (Nat.le_of_ble_eq_true rfl) hT ?_
  refine r_M_leftFor_0 hT _ (Nat.le_refl _) (Nat.le_refl _) ?_
  refine ⟨r, J, h3, ?_⟩
  rw [t1]; exact g4
/-- the cables that end at a site -/
def enB (e1 e2 : Nat → Nat) (s k : Nat) : Bool := decide (e1 k = s) || decide (e2 k = s)
theorem z_aloneOf (hT : w.1.stackTraces = false) {s : Nat} (hm : mC I S N sd e1 e2 pr fm l) (hs : s < S) : ∃ (J : Nat → Nat → Int32) (r : Int32), mfr J I ∧ ((r = -1 ∧ ∀ x, ¬ (sd x = true ∧ enB e1 e2 s x = true)) ∨ ∃ c, sd c = true ∧ enB e1 e2 s c = true ∧ (∀ x, sd x = true ∧ enB e1 e2 s x = true → x = c ∨ ch pr c x) ∧ r = ls_v pr (net e1 e2 sd l) (net e1 e2 (fun k => sd k && !(sd k && enB e1 e2 s k && !decide (k = c))) l)) ∧ ab_PU w (d + 5) mt_M_aloneOf [.ref mx, .int (nI s)] I L n nc ns r J := by
  have hm0 := hm
  obtain ⟨⟨p1, p2, p3, p4, p5, p6⟩, m2, m3, m4, m5⟩ := hm
  have loop : ∀ m i b, i + m = N → chb pr (fun x => sd x = true ∧ enB e1 e2 s x = true) i b → ∃ (J : Nat → Nat → Int32) (r : Int32), mfr J I ∧ ((r = -1 ∧ ∀ x, ¬ (sd x = true ∧ enB e1 e2 s x = true)) ∨ ∃ c, sd c = true ∧ enB e1 e2 s c = true ∧ (∀ x, sd x = true ∧ enB e1 e2 s x = true → x = c ∨ ch pr c x) ∧ r = ls_v pr (net e1 e2 sd l) (net e1 e2 (fun k => sd k && !(sd k && enB e1 e2 s k && !decide (k = c))) l)) ∧ ab_E w ((d + 3) + 2) mt_M_aloneOf 7 [.ref mx, .int (nI s), .int b, .int (ab_mask i (fun k => sd k && enB e1 e2 s k)), .int (nI i)] [] (I, L, ab_RR, n, nc, ns) (.inl (some (.int r)), (J, L, ab_RR, n, nc, ns)) := by
    intro m
    induction m with
    | zero =>
      intro i b hi hb
      have e : i = N := by omega
      subst e
      have hb' := chb_end hb (fun x hx => m4 x hx.1)
      rcases hb' with ⟨e, g⟩ | ⟨c, e, g1, g2⟩
      · subst e
        refine ⟨I, -1, mfr_refl, Or.inl ⟨rfl, g⟩, ?_⟩
        refine r_M_aloneOf_7 hT _ _ _ _ (Nat.le_refl _) (Nat.le_refl _) ?_
        refine bb_t ?_ (bb_t' rfl rfl)
        rw [p2]; exact nI_le (Nat.le_refl _) (by omega)
      · subst e
        have hcN := m4 c g1.1
        obtain ⟨J, a1, a2⟩ := z_lossOf (w := w) (d := d) (n := n) (nc := nc) (ns := ns) (L := L) hT hm0 (x := (ab_mask i (fun k => sd k && enB e1 e2 s k)) &&& (((1 : Int32) <<< (nI c &&& 31)) ^^^ (-1))) (xo := fun k => sd k && enB e1 e2 s k && !decide (k = c)) (fun k hk => by
          rw [b_and, ab_mask_bt _ _ (by omega) k hk, ab_bnot _ hk, ab_sh1 (by omega) hk]
          cases h : sd k with
          | true => rw [decide_eq_true (m4 k h)]; simp
          | false => simp)
        refine ⟨J, _, a1, Or.inr ⟨c, g1.1, g1.2, g2, rfl⟩, ?_⟩
        refine r_M_aloneOf_7 hT _ _ _ _ (Nat.le_refl _) (Nat.le_refl _) ?_
        refine bb_t ?_ (bb_f' (nI_m1 (by omega)) ⟨_, J, a2, rfl⟩)
        rw [p2]; exact nI_le (Nat.le_refl _) (by omega)
    | succ m ih =>
      intro i b hi hb
      have hiN : ¬ N ≤ i := by omega
      obtain ⟨q1, q2, q3, q4, q5, q6⟩ := p6 i (by omega)
      have hsi := m3 i (by omega)
      by_cases hP : sd i = true ∧ enB e1 e2 s i = true
      · have hmk : ab_mask i (fun k => sd k && enB e1 e2 s k) ||| ((1 : Int32) <<< (nI i &&& 31)) = ab_mask (i + 1) (fun k => sd k && enB e1 e2 s k) := ab_mask_put (by omega) (by rw [hP.1, hP.2]; rfl)
        have hsd := hP.1
        have hen : e1 i = s ∨ e2 i = s := by have := hP.2; unfold enB at this; simpa using this
        rcases hb with ⟨hb, hb2⟩ | ⟨c, hb, hc1, hc2, hc3⟩
        · subst hb
          obtain ⟨J, r, g0, g1, g2⟩ := ih (i + 1) (nI i) (by omega) (chb_first hb2 hP)
          refine ⟨J, r, g0, g1, ?_⟩
          refine r_M_aloneOf_7 hT _ _ _ _ (Nat.le_refl _) (Nat.le_refl _) ?_
          simp (disch := first | omega | decide) only [p2, hiN, hsi, hsd, q1, q2, hmk, nl_add1, nl_add2, nl_mul1, nl_mul2, nl_sub1, nl_lt1, nl_lt2, nl_le1, nl_le2, nl_eq1, nl_eq2, nl_m1, nl_m2, nl_inT, nI_add, nI_mul, nI_leI, nI_ltI, nI_eq, nI_clamp, nl_bit, oI_n, oI_s, oI_m1, true_and, and_true, eq_self, Bool.false_eq_true, not_false_eq_true, not_true_eq_false, false_implies, true_implies, implies_true, forall_const, Nat.not_lt_zero, ab_row_eq, ab_row_ne, ab_up_i, ab_up_o, pk_us, pk_un, ab_row_row]
          exact ⟨fun _ => g2, fun e => ⟨fun _ => g2, fun e' => absurd hen (by omega)⟩⟩
        · subst hb
          obtain ⟨u1, u2, u3, u4, u5, u6⟩ := p6 c (by omega)
          have key : ∃ (J : Nat → Nat → Int32) (r : Int32), mfr J I ∧ ((r = -1 ∧ ∀ x, ¬ (sd x = true ∧ enB e1 e2 s x = true)) ∨ ∃ c, sd c = true ∧ enB e1 e2 s c = true ∧ (∀ x, sd x = true ∧ enB e1 e2 s x = true → x = c ∨ ch pr c x) ∧ r = ls_v pr (net e1 e2 sd l) (net e1 e2 (fun k => sd k && !(sd k && enB e1 e2 s k && !decide (k = c))) l)) ∧ ((pr i < pr c → ab_E w ((d + 3) + 2) mt_M_aloneOf 7 [.ref mx, .int (nI s), .int (nI i), .int (ab_mask (i + 1) (fun k => sd k && enB e1 e2 s k)), .int (nI (i + 1))] [] (I, L, ab_RR, n, nc, ns) (.inl (some (.int r)), (J, L, ab_RR, n, nc, ns))) ∧ (¬ pr i < pr c → ((pr i = pr c → ((c ≤ i → ab_E w ((d + 3) + 2) mt_M_aloneOf 7 [.ref mx, .int (nI s), .int (nI c), .int (ab_mask (i + 1) (fun k => sd k && enB e1 e2 s k)), .int (nI (i + 1))] [] (I, L, ab_RR, n, nc, ns) (.inl (some (.int r)), (J, L, ab_RR, n, nc, ns))) ∧ (¬ c ≤ i → ab_E w ((d + 3) + 2) mt_M_aloneOf 7 [.ref mx, .int (nI s), .int (nI i), .int (ab_mask (i + 1) (fun k => sd k && enB e1 e2 s k)), .int (nI (i + 1))] [] (I, L, ab_RR, n, nc, ns) (.inl (some (.int r)), (J, L, ab_RR, n, nc, ns))))) ∧ (¬ pr i = pr c → ab_E w ((d + 3) + 2) mt_M_aloneOf 7 [.ref mx, .int (nI s), .int (nI c), .int (ab_mask (i + 1) (fun k => sd k && enB e1 e2 s k)), .int (nI (i + 1))] [] (I, L, ab_RR, n, nc, ns) (.inl (some (.int r)), (J, L, ab_RR, n, nc, ns)))))) := by
            by_cases hcx : ch pr i c
            · obtain ⟨J, r, g0, g1, g2⟩ := ih (i + 1) (nI i) (by omega) (chb_take hc3 hP hcx)
              exact ⟨J, r, g0, g1, cmp_t hcx g2⟩
            · obtain ⟨J, r, g0, g1, g2⟩ := ih (i + 1) (nI c) (by omega) (chb_keep hc1 hc2 hc3 hcx)
              exact ⟨J, r, g0, g1, cmp_f hcx g2⟩
          obtain ⟨J, r, g0, g1, g2⟩ := key
          refine ⟨J, r, g0, g1, ?_⟩
          refine r_M_aloneOf_7 hT _ _ _ _ (Nat.le_refl _) (Nat.le_refl _) ?_
          simp (disch := first | omega | decide) only [p2, hiN, hsi, hsd, q1, q2, q3, u3, hmk, nl_add1, nl_add2, nl_mul1, nl_mul2, nl_sub1, nl_lt1, nl_lt2, nl_le1, nl_le2, nl_eq1, nl_eq2, nl_m1, nl_m2, nl_inT, nI_add, nI_mul, nI_leI, nI_ltI, nI_eq, nI_clamp, nl_bit, oI_n, oI_s, oI_m1, true_and, and_true, eq_self, Bool.false_eq_true, not_false_eq_true, not_true_eq_false, false_implies, true_implies, implies_true, forall_const, Nat.not_lt_zero, ab_row_eq, ab_row_ne, ab_up_i, ab_up_o, pk_us, pk_un, ab_row_row]
          exact ⟨fun _ => g2, fun e => ⟨fun _ => g2, fun e' => absurd hen (by omega)⟩⟩
      · have hmk : ab_mask i (fun k => sd k && enB e1 e2 s k) = ab_mask (i + 1) (fun k => sd k && enB e1 e2 s k) := ab_mask_not (fun h => hP (by simpa using h))
        obtain ⟨J, r, g0, g1, g2⟩ := ih (i + 1) b (by omega) (chb_no hb hP)
        refine ⟨J, r, g0, g1, ?_⟩
        rw [← hmk] at g2
        refine r_M_aloneOf_7 hT _ _ _ _ (Nat.le_refl _) (Nat.le_refl _) ?_
        simp (disch := first | omega | decide) only [p2, hiN, hsi, q1, q2, nl_add1, nl_add2, nl_mul1, nl_mul2, nl_sub1, nl_lt1, nl_lt2, nl_le1, nl_le2, nl_eq1, nl_eq2, nl_m1, nl_m2, nl_inT, nI_add, nI_mul, nI_leI, nI_ltI, nI_eq, nI_clamp, nl_bit, oI_n, oI_s, oI_m1, true_and, and_true, eq_self, Bool.false_eq_true, not_false_eq_true, not_true_eq_false, false_implies, true_implies, implies_true, forall_const, Nat.not_lt_zero, ab_row_eq, ab_row_ne, ab_up_i, ab_up_o, pk_us, pk_un, ab_row_row]
        refine ⟨fun a => ⟨fun e => absurd ⟨a, ?_⟩ hP, fun e => ⟨fun e' => absurd ⟨a, ?_⟩ hP, fun _ => g2⟩⟩, fun _ => g2⟩
        · unfold enB; simp [e]
        · unfold enB; simp [e']
  obtain ⟨J, r, g0, g1, g2⟩ := loop N 0 (-1) (by omega) (Or.inl ⟨rfl, fun x hx => absurd hx (Nat.not_lt_zero x)⟩)
  refine ⟨J, r, g0, g1, ?_⟩
  refine ab_C_of (by decide) rfl (Nat.le_of_ble_eq_true rfl) hT ?_
  refine r_M_aloneOf_0 hT _ (Nat.le_refl _) (Nat.le_refl _) ?_
  exact g2
/-- whether pieces come apart without some cables -/
def apB (e1 e2 : Nat → Nat) (l : List Nat) (sd xo : Nat → Bool) : Bool := decide ((net e1 e2 (fun k => sd k && !xo k) l).length < (net e1 e2 sd l).length)
def wkB (e1 e2 : Nat → Nat) (l : List Nat) (sd : Nat → Bool) (a b : Nat) : Bool := sd a && !apB e1 e2 l sd (fun k => decide (k = a)) && (sd b && !apB e1 e2 l sd (fun k => decide (k = b)) && apB e1 e2 l sd (fun k => decide (k = a) || decide (k = b)))
theorem fst_app {q : List (Nat × Nat)} {x : Nat × Nat} (h : q ≠ []) : fst_v (q ++ [x]) = fst_v q := by
  cases q with
  | nil => exact absurd rfl h
  | cons p q => rfl
theorem z_tellWeak (hT : w.1.stackTraces = false) (hm : mC I S N sd e1 e2 pr fm l) : ∃ (J : Nat → Nat → Int32), mfr J I ∧ J mx 31 = nI (wkl (wkB e1 e2 l sd) N N).length ∧ J mx 32 = fst_v (wkl (wkB e1 e2 l sd) N N) ∧ ab_U w (d + 5) mt_M_tellWeak [.ref mx] I L n nc ns J := by
  obtain ⟨J, h1, h3⟩ := z_piecesNow (w := w) (d := d) (n := n) (nc := nc) (ns := ns) (L := L) hT hm
  have hN := hm.1.2.2.2.1
  generalize hP : S - (net e1 e2 sd l).length = P at *
  have apart : ∀ (K : Nat → Nat → Int32) (x : Int32) (xo : Nat → Bool), mfr K I → (∀ k, k < 32 → bt x k = xo k) → ∃ (J : Nat → Nat → Int32), mfr J I ∧ (∀ k, k ≠ 21 → k ≠ 22 → J mx k = K mx k) ∧ ab_PU w (d + 4) mt_M_isApart [.ref mx, .int x, .int (nI P)] K L n nc ns (if apB e1 e2 l sd xo = true then 1 else 0) J := by
    intro K x xo hK hx
    obtain ⟨J, g1, g2, g3⟩ := z_isApart (w := w) (d := d + 1) (n := n) (nc := nc) (ns := ns) (L := L) hT (mC_fr hK hm) hx
    rw [hP] at g3
    refine ⟨J, mfr_trans g1 hK, g2, ?_⟩
    unfold apB
    by_cases h : (net e1 e2 (fun k => sd k && !xo k) l).length < (net e1 e2 sd l).length
    · rw [if_pos h] at g3; rw [if_pos (decide_eq_true h)]; exact g3
    · rw [if_neg h] at g3; rw [if_neg (by rw [decide_eq_false h]; decide)]; exact g3
  generalize hW : wkB e1 e2 l sd = W
  have outer : ∀ m a (K : Nat → Nat → Int32), a + m = N → mfr K I → K mx 31 = nI (wkl W N a).length → K mx 32 = fst_v (wkl W N a) → ∃ J', mfr J' I ∧ J' mx 31 = nI (wkl W N N).length ∧ J' mx 32 = fst_v (wkl W N N) ∧ ab_E w ((d + 4) + 1) mt_M_tellWeak 17 [.ref mx, .int (nI P), .int (nI a), .null] [] (K, L, ab_RR, n, nc, ns) (.inl none, (J', L, ab_RR, n, nc, ns)) := by
    intro m
    induction m with
    | zero =>
      intro a K ha hK h31 h32
      have e : a = N := by omega
      subst e
      refine ⟨K, hK, h31, h32, ?_⟩
      refine r_M_tellWeak_17 hT _ _ (Nat.le_refl _) (Nat.le_refl _) ?_
      refine bb_t ?_ rfl
      rw [mfr_now hK, hm.1.2.1]; exact nI_le (Nat.le_refl _) (by omega)
    | succ m ih =>
      intro a K ha hK h31 h32
      have haN : ¬ N ≤ a := by omega
      have hm' := mC_fr hK hm
      have p2 := hm'.1.2.1
      have hsa := hm'.2.2.1 a (by omega)
      by_cases hsd : sd a = true
      · obtain ⟨K2, a1, a2, a3⟩ := apart K ((1 : Int32) <<< (nI a &&& 31)) (fun k => decide (k = a)) hK (fun k hk => ab_sh1 (by omega) hk)
        by_cases hap : apB e1 e2 l sd (fun k => decide (k = a)) = true
        · have hwn : wki W a N = [] := wki_none (fun b => by rw [← hW]; unfold wkB; rw [hap]; simp) N
          obtain ⟨J', g1, g2, g3, g4⟩ := ih (a + 1) K2 (by omega) a1 (by rw [a2 31 (by omega) (by omega), wkl_succ, hwn, List.append_nil]; exact h31) (by rw [a2 32 (by omega) (by omega), wkl_succ, hwn, List.append_nil]; exact h32)
          refine ⟨J', g1, g2, g3, ?_⟩
          rw [if_pos hap] at a3
          refine r_M_tellWeak_17 hT _ _ (Nat.le_refl _) (Nat.le_refl _) ?_
          simp (disch := first | omega | decide) only [p2, haN, hsa, hsd, nl_add1, nl_add2, nl_mul1, nl_mul2, nl_sub1, nl_lt1, nl_lt2, nl_le1, nl_le2, nl_eq1, nl_eq2, nl_m1, nl_m2, nl_inT, nI_add, nI_mul, nI_leI, nI_ltI, nI_eq, nI_clamp, nl_bit, oI_n, oI_s, oI_m1, true_and, and_true, eq_self, Bool.false_eq_true, not_false_eq_true, not_true_eq_false, false_implies, true_implies, implies_true, forall_const, Nat.not_lt_zero, ab_row_eq, ab_row_ne, ab_up_i, ab_up_o, pk_us, pk_un, ab_row_row]
          exact ⟨_, K2, a3, fun e => absurd e (by decide), fun _ => g4⟩
        · rw [if_neg hap] at a3
          have inner : ∀ q b (K : Nat → Nat → Int32), b + q = N → a < b → mfr K I → K mx 31 = nI (wkl W N a ++ wki W a b).length → K mx 32 = fst_v (wkl W N a ++ wki W a b) → ∃ J', mfr J' I ∧ J' mx 31 = nI (wkl W N N).length ∧ J' mx 32 = fst_v (wkl W N N) ∧ ab_E w ((d + 4) + 1) mt_M_tellWeak 51 [.ref mx, .int (nI P), .int (nI a), .int (nI b)] [] (K, L, ab_RR, n, nc, ns) (.inl none, (J', L, ab_RR, n, nc, ns)) := by
            intro q
            induction q with
            | zero =>
              intro b K hb hab hK h31 h32
              have e : b = N := by omega
              subst e
              obtain ⟨J', g1, g2, g3, g4⟩ := ih (a + 1) K (by omega) hK (by rw [wkl_succ]; exact h31) (by rw [wkl_succ]; exact h32)
              refine ⟨J', g1, g2, g3, ?_⟩
              refine r_M_tellWeak_51 hT _ _ _ (Nat.le_refl _) (Nat.le_refl _) ?_
              refine bb_t (by rw [mfr_now hK, hm.1.2.1]; exact nI_le (Nat.le_refl _) (by omega)) ?_
              rw [nI_1]; exact g4
            | succ q ihq =>
              intro b K hb hab hK h31 h32
              have hbN : ¬ N ≤ b := by omega
              have hm' := mC_fr hK hm
              have p2 := hm'.1.2.1
              have hsb := hm'.2.2.1 b (by omega)
              have skip : W a b = false → ∀ (K2 : Nat → Nat → Int32), mfr K2 I → K2 mx 31 = K mx 31 → K2 mx 32 = K mx 32 → ∃ J', mfr J' I ∧ J' mx 31 = nI (wkl W N N).length ∧ J' mx 32 = fst_v (wkl W N N) ∧ ab_E w ((d + 4) + 1) mt_M_tellWeak 51 [.ref mx, .int (nI P), .int (nI a), .int (nI (b + 1))] [] (K2, L, ab_RR, n, nc, ns) (.inl none, (J', L, ab_RR, n, nc, ns)) := fun hw K2 hK2 e31 e32 => ihq (b + 1) K2 (by omega) (by omega) hK2 (by rw [wki_succ_f (fun g => by rw [hw] at g; exact absurd g.2 (by decide)), e31]; exact h31) (by rw [wki_succ_f (fun g => by rw [hw] at g; exact absurd g.2 (by decide)), e32]; exact h32)
              by_cases hsdb : sd b = true
              · obtain ⟨K2, b1, b2, b3⟩ := apart K ((1 : Int32) <<< (nI b &&& 31)) (fun k => decide (k = b)) hK (fun k hk => ab_sh1 (by omega) hk)
                by_cases hapb : apB e1 e2 l sd (fun k => decide (k = b)) = true
                · obtain ⟨J', g1, g2, g3, g4⟩ := skip (by rw [← hW]; unfold wkB; rw [hapb]; simp) K2 b1 (b2 31 (by omega) (by omega)) (b2 32 (by omega) (by omega))
                  refine ⟨J', g1, g2, g3, ?_⟩
                  rw [if_pos hapb] at b3
                  refine r_M_tellWeak_51 hT _ _ _ (Nat.le_refl _) (Nat.le_refl _) ?_
                  simp (disch := first | omega | decide) only [p2, hbN, hsb, hsdb, nl_add1, nl_add2, nl_mul1, nl_mul2, nl_sub1, nl_lt1, nl_lt2, nl_le1, nl_le2, nl_eq1, nl_eq2, nl_m1, nl_m2, nl_inT, nI_add, nI_mul, nI_leI, nI_ltI, nI_eq, nI_clamp, nl_bit, oI_n, oI_s, oI_m1, true_and, and_true, eq_self, Bool.false_eq_true, not_false_eq_true, not_true_eq_false, false_implies, true_implies, implies_true, forall_const, Nat.not_lt_zero, ab_row_eq, ab_row_ne, ab_up_i, ab_up_o, pk_us, pk_un, ab_row_row]
                  exact ⟨_, K2, b3, fun _ => g4, fun e => absurd e (by decide)⟩
                · rw [if_neg hapb] at b3
                  obtain ⟨K3, c1, c2, c3⟩ := apart K2 (((1 : Int32) <<< (nI a &&& 31)) ||| ((1 : Int32) <<< (nI b &&& 31))) (fun k => decide (k = a) || decide (k = b)) b1 (fun k hk => by rw [b_or, ab_sh1 (by omega) hk, ab_sh1 (by omega) hk])
                  have k31 : K3 mx 31 = K mx 31 := (c2 31 (by omega) (by omega)).trans (b2 31 (by omega) (by omega))
                  have k32 : K3 mx 32 = K mx 32 := (c2 32 (by omega) (by omega)).trans (b2 32 (by omega) (by omega))
                  by_cases hapc : apB e1 e2 l sd (fun k => decide (k = a) || decide (k = b)) = true
                  · have hw : W a b = true := by rw [← hW]; unfold wkB; simp [hsd, hsdb, hap, hapb, hapc]
                    rw [if_pos hapc] at c3
                    have step : ∀ x, x = fst_v ((wkl W N a ++ wki W a b) ++ [(a, b)]) → ∃ J', mfr J' I ∧ J' mx 31 = nI (wkl W N N).length ∧ J' mx 32 = fst_v (wkl W N N) ∧ ab_E w ((d + 4) + 1) mt_M_tellWeak 51 [.ref mx, .int (nI P), .int (nI a), .int (nI (b + 1))] [] ((ab_up (ab_up K3 mx 32 x) mx 31 (K3 mx 31 + 1)), L, ab_RR, n, nc, ns) (.inl none, (J', L, ab_RR, n, nc, ns)) := fun x hx => ihq (b + 1) _ (by omega) (by omega) (mfr_upx (mfr_upx c1 (by unfold mkf; decide)) (by unfold mkf; decide)) (by rw [ab_up_i, pk_us, k31, h31, wki_succ_t hab hw, ← List.append_assoc, List.length_append (bs := [(a, b)])]; exact nI_1 _) (by rw [ab_up_i, pk_un (by omega), ab_up_i, pk_us, wki_succ_t hab hw, ← List.append_assoc]; exact hx)
                    cases hq : wkl W N a ++ wki W a b with
                    | nil =>
                      have h32' : K3 mx 32 = -1 := by rw [k32, h32, hq]; rfl
                      obtain ⟨J', g1, g2, g3, g4⟩ := step (nI (100 * a + b)) (by rw [hq]; rfl)
                      refine ⟨J', g1, g2, g3, ?_⟩
                      refine r_M_tellWeak_51 hT _ _ _ (Nat.le_refl _) (Nat.le_refl _) ?_
                      simp (disch := first | omega | decide) only [p2, hbN, hsb, hsdb, nl_add1, nl_add2, nl_mul1, nl_mul2, nl_sub1, nl_lt1, nl_lt2, nl_le1, nl_le2, nl_eq1, nl_eq2, nl_m1, nl_m2, nl_inT, nI_add, nI_mul, nI_leI, nI_ltI, nI_eq, nI_clamp, nl_bit, oI_n, oI_s, oI_m1, true_and, and_true, eq_self, Bool.false_eq_true, not_false_eq_true, not_true_eq_false, false_implies, true_implies, implies_true, forall_const, Nat.not_lt_zero, ab_row_eq, ab_row_ne, ab_up_i, ab_up_o, pk_us, pk_un, ab_row_row]
                      refine ⟨_, K2, b3, fun e => absurd rfl e, fun _ => ⟨_, K3, c3, fun _ => ⟨fun e => absurd h32' e, fun _ => g4⟩, fun e => absurd e (by decide)⟩⟩
                    | cons x q =>
                      have hx2 : x.1 < N ∧ x.2 < N := wkl_mem (W := W) (a := a) (b := b) (by omega) (by omega) (by omega) (by rw [hq]; exact List.mem_cons_self)
                      have h32' : K3 mx 32 = nI (100 * x.1 + x.2) := by rw [k32, h32, hq]; rfl
                      obtain ⟨J', g1, g2, g3, g4⟩ := step (K3 mx 32) (by rw [hq, h32']; rfl)
                      refine ⟨J', g1, g2, g3, ?_⟩
                      refine r_M_tellWeak_51 hT _ _ _ (Nat.le_refl _) (Nat.le_refl _) ?_
                      simp (disch := first | omega | decide) only [p2, hbN, hsb, hsdb, nl_add1, nl_add2, nl_mul1, nl_mul2, nl_sub1, nl_lt1, nl_lt2, nl_le1, nl_le2, nl_eq1, nl_eq2, nl_m1, nl_m2, nl_inT, nI_add, nI_mul, nI_leI, nI_ltI, nI_eq, nI_clamp, nl_bit, oI_n, oI_s, oI_m1, true_and, and_true, eq_self, Bool.false_eq_true, not_false_eq_true, not_true_eq_false, false_implies, true_implies, implies_true, forall_const, Nat.not_lt_zero, ab_row_eq, ab_row_ne, ab_up_i, ab_up_o, pk_us, pk_un, ab_row_row]
                      refine ⟨_, K2, b3, fun e => absurd rfl e, fun _ => ⟨_, K3, c3, fun _ => ⟨fun _ => g4, fun e => absurd e (by rw [h32']; exact nI_m1 (by omega))⟩, fun e => absurd e (by decide)⟩⟩
                  · rw [if_neg hapc] at c3
                    obtain ⟨J', g1, g2, g3, g4⟩ := skip (by rw [← hW]; unfold wkB; simp [hapc]) K3 c1 k31 k32
                    refine ⟨J', g1, g2, g3, ?_⟩
                    refine r_M_tellWeak_51 hT _ _ _ (Nat.le_refl _) (Nat.le_refl _) ?_
                    simp (disch := first | omega | decide) only [p2, hbN, hsb, hsdb, nl_add1, nl_add2, nl_mul1, nl_mul2, nl_sub1, nl_lt1, nl_lt2, nl_le1, nl_le2, nl_eq1, nl_eq2, nl_m1, nl_m2, nl_inT, nI_add, nI_mul, nI_leI, nI_ltI, nI_eq, nI_clamp, nl_bit, oI_n, oI_s, oI_m1, true_and, and_true, eq_self, Bool.false_eq_true, not_false_eq_true, not_true_eq_false, false_implies, true_implies, implies_true, forall_const, Nat.not_lt_zero, ab_row_eq, ab_row_ne, ab_up_i, ab_up_o, pk_us, pk_un, ab_row_row]
                    exact ⟨_, K2, b3, fun e => absurd rfl e, fun _ => ⟨_, K3, c3, fun e => absurd rfl e, fun _ => g4⟩⟩
              · obtain ⟨J', g1, g2, g3, g4⟩ := skip (by rw [← hW]; unfold wkB; simp [hsdb]) K hK rfl rfl
                refine ⟨J', g1, g2, g3, ?_⟩
                refine r_M_tellWeak_51 hT _ _ _ (Nat.le_refl _) (Nat.le_refl _) ?_
                simp (disch := first | omega | decide) only [p2, hbN, hsb, hsdb, nl_add1, nl_add2, nl_mul1, nl_mul2, nl_sub1, nl_lt1, nl_lt2, nl_le1, nl_le2, nl_eq1, nl_eq2, nl_m1, nl_m2, nl_inT, nI_add, nI_mul, nI_leI, nI_ltI, nI_eq, nI_clamp, nl_bit, oI_n, oI_s, oI_m1, true_and, and_true, eq_self, Bool.false_eq_true, not_false_eq_true, not_true_eq_false, false_implies, true_implies, implies_true, forall_const, Nat.not_lt_zero, ab_row_eq, ab_row_ne, ab_up_i, ab_up_o, pk_us, pk_un, ab_row_row]
                exact g4
          obtain ⟨J', g1, g2, g3, g4⟩ := inner (N - (a + 1)) (a + 1) K2 (by omega) (by omega) a1 (by rw [a2 31 (by omega) (by omega), wki_0 (Nat.le_refl _), List.append_nil]; exact h31) (by rw [a2 32 (by omega) (by omega), wki_0 (Nat.le_refl _), List.append_nil]; exact h32)
          refine ⟨J', g1, g2, g3, ?_⟩
          refine r_M_tellWeak_17 hT _ _ (Nat.le_refl _) (Nat.le_refl _) ?_
          simp (disch := first | omega | decide) only [p2, haN, hsa, hsd, nl_add1, nl_add2, nl_mul1, nl_mul2, nl_sub1, nl_lt1, nl_lt2, nl_le1, nl_le2, nl_eq1, nl_eq2, nl_m1, nl_m2, nl_inT, nI_add, nI_mul, nI_leI, nI_ltI, nI_eq, nI_clamp, nl_bit, oI_n, oI_s, oI_m1, true_and, and_true, eq_self, Bool.false_eq_true, not_false_eq_true, not_true_eq_false, false_implies, true_implies, implies_true, forall_const, Nat.not_lt_zero, ab_row_eq, ab_row_ne, ab_up_i, ab_up_o, pk_us, pk_un, ab_row_row]
          exact ⟨_, K2, a3, fun _ => g4, fun e => absurd rfl e⟩
      · have hwn : wki W a N = [] := wki_none (fun b => by rw [← hW]; unfold wkB; simp [hsd]) N
        obtain ⟨J', g1, g2, g3, g4⟩ := ih (a + 1) K (by omega) hK (by rw [wkl_succ, hwn, List.append_nil]; exact h31) (by rw [wkl_succ, hwn, List.append_nil]; exact h32)
        refine ⟨J', g1, g2, g3, ?_⟩
        refine r_M_tellWeak_17 hT _ _ (Nat.le_refl _) (Nat.le_refl _) ?_
        simp (disch := first | omega | decide) only [p2, haN, hsa, hsd, nl_add1, nl_add2, nl_mul1, nl_mul2, nl_sub1, nl_lt1, nl_lt2, nl_le1, nl_le2, nl_eq1, nl_eq2, nl_m1, nl_m2, nl_inT, nI_add, nI_mul, nI_leI, nI_ltI, nI_eq, nI_clamp, nl_bit, oI_n, oI_s, oI_m1, true_and, and_true, eq_self, Bool.false_eq_true, not_false_eq_true, not_true_eq_false, false_implies, true_implies, implies_true, forall_const, Nat.not_lt_zero, ab_row_eq, ab_row_ne, ab_up_i, ab_up_o, pk_us, pk_un, ab_row_row]
        exact g4
  obtain ⟨J', g1, g2, g3, g4⟩ := outer N 0 (ab_up (ab_up J mx 31 0) mx 32 (-1)) (by omega) (mfr_upx (mfr_upx h1 (by unfold mkf; decide)) (by unfold mkf; decide)) (by rw [ab_up_i, pk_un (by omega), ab_up_i, pk_us]; rfl) (by rw [ab_up_i, pk_us]; rfl)
  refine ⟨J', g1, g2, g3, ?_⟩
  refine ab_C_of (by decide) rfl (Nat.le_of_ble_eq_true rfl) hT ?_
  refine r_M_tellWeak_0 hT (Nat.le_refl _) (Nat.le_refl _) ?_
  exact ⟨_, J, h3, g4⟩
end MSP
