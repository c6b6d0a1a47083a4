/-! ALONE, PAY, TWINS -/
theorem rn_sum {f : Nat → Nat} : ∀ N, ((List.range N).map f).sum = smf f N := by
  intro N
  induction N with
  | zero => rfl
  | succ N ih => rw [List.range_succ, List.map_append, List.sum_append, ih, smf]; simp
theorem fi_sum {f : Nat → Nat} {p : Nat → Bool} : ∀ l : List Nat, ((l.filter p).map f).sum = (l.map (fun k => if p k = true then f k else 0)).sum := by
  intro l
  induction l with
  | nil => rfl
  | cons a l ih =>
    rw [List.filter_cons, List.map_cons, List.sum_cons, ← ih]
    by_cases h : p a = true
    · rw [if_pos h, if_pos h, List.map_cons, List.sum_cons]
    · rw [if_neg h, if_neg h, Nat.zero_add]
theorem smf_cong {f g : Nat → Nat} : ∀ {N}, (∀ k, k < N → f k = g k) → smf f N = smf g N := by
  intro N
  induction N with
  | zero => intro _; rfl
  | succ N ih => intro h; rw [smf, smf, ih (fun k hk => h k (by omega)), h N (by omega)]
theorem smf_split {f g h : Nat → Nat} : ∀ {N}, (∀ k, k < N → f k = g k + h k) → smf f N = smf g N + smf h N := by
  intro N
  induction N with
  | zero => intro _; rfl
  | succ N ih => intro e; rw [smf, smf, smf, ih (fun k hk => e k (by omega)), e N (by omega)]; omega
section KPY
variable {w : ab_Wd} {d n nc ns : Nat} {I : Nat → Nat → Int32} {L : Nat → Nat → Int64}
variable {S N : Nat} {sd : Nat → Bool} {e1 e2 pr fm : Nat → Nat} {l : List Nat}
theorem net_smf (hl : od pr N l) (am : Nat → Bool) : ((net e1 e2 am l).map pr).sum = smf (fun k => if decide (k ∈ net e1 e2 am l) = true then pr k else 0) N := by
  have h1 := congrArg (fun q => (q.map pr).sum) (net_filter (e1 := e1) (e2 := e2) hl am)
  have h1 : ((net e1 e2 am l).map pr).sum = ((l.filter (fun k => decide (k ∈ net e1 e2 am l))).map pr).sum := h1
  rw [h1, fi_sum]
  have hp : l.Perm (List.range N) := (List.perm_ext_iff_of_nodup (od_nodup hl) List.nodup_range).mpr (fun k => by rw [hl.2 k, List.mem_range])
  rw [List.Perm.sum_nat (hp.map _), rn_sum]
theorem kq_lenA (hq : kC I S N sd e1 e2 pr fm l) (am : Nat → Bool) : (net e1 e2 am l).length + 1 ≤ S := (kp_net hq.1 hq.2.1 (by have := hq.2.2.1; omega) am).2.2.2
theorem gr_kfr {J : Nat → Nat → Int32} {s : List Nat × (Nat → Nat)} (h : gr_st J I kx_trialNet kx_trialNet_order kx_trialNet_piece S pr s) : kfr J I := fun c hc => h.1 c (fun e => hc (by rw [e]; unfold kscr; decide)) (fun e => hc (by rw [e]; unfold kscr; decide)) (fun e => hc (by rw [e]; unfold kscr; decide))
/-- what ALONE answers -/
def alP (S N : Nat) (sd : Nat → Bool) (e1 e2 pr : Nat → Nat) (l : List Nat) (s : Nat) (r : Int32) : Prop := (r = -1 ∧ ∀ x, ¬ (sd x = true ∧ enB e1 e2 s x = true)) ∨ ∃ c, sd c = true ∧ enB e1 e2 s c = true ∧ (∀ x, sd x = true ∧ enB e1 e2 s x = true → x = c ∨ ch pr c x) ∧ r = ls_v pr (net e1 e2 sd l) (net e1 e2 (fun k => sd k && !(sd k && enB e1 e2 s k && !decide (k = c))) l)
theorem al_uq {s : Nat} {r r' : Int32} (h : alP S N sd e1 e2 pr l s r) (g : alP S N sd e1 e2 pr l s r') : r = r' := by
  rcases h with ⟨h1, h2⟩ | ⟨c, c1, c2, c3, c4⟩
  · rcases g with ⟨g1, g2⟩ | ⟨c', c1', c2', c3', c4'⟩
    · rw [h1, g1]
    · exact absurd ⟨c1', c2'⟩ (h2 c')
  · rcases g with ⟨g1, g2⟩ | ⟨c', c1', c2', c3', c4'⟩
    · exact absurd ⟨c1, c2⟩ (g2 c)
    · have e : c = c' := by
        rcases c3 c' ⟨c1', c2'⟩ with e | e
        · exact e.symm
        · rcases c3' c ⟨c1, c2⟩ with e' | e'
          · exact e'
          · exact absurd e' (ch_asymm e)
      subst e
      rw [c4, c4']
theorem ls_k (hq : kQ I S N sd e1 e2 pr fm l) {J : Nat → Nat → Int32} {am : Nat → Bool} (hg : gr_st J I kx_trialNet kx_trialNet_order kx_trialNet_piece S pr (kr e1 e2 (l.filter am))) {X : Int32} (hX : ¬ (net e1 e2 am l).length < (net e1 e2 sd l).length → X = J kx_trialNet 3 - J kx_forest 3) : (J kx_trialNet 4 ≤ J kx_forest 4 ↔ ¬ (net e1 e2 am l).length < (net e1 e2 sd l).length) ∧ J kx_trialNet 3 = nI ((net e1 e2 am l).map pr).sum ∧ J kx_forest 3 = nI ((net e1 e2 sd l).map pr).sum := by
  have h1 := kq_lenA hq.1 am
  have h2 := kq_lenA hq.1 sd
  have hS := hq.1.1.2.2.1
  have g4 : J kx_trialNet 4 = nI (S - (net e1 e2 am l).length) := hg.2.2.2.2.1
  have f4 : J kx_forest 4 = nI (S - (net e1 e2 sd l).length) := by
    rw [hg.1 kx_forest (by decide) (by decide) (by decide)]; exact hq.2.2.2.2.1
  refine ⟨?_, hg.2.2.2.1, by rw [hg.1 kx_forest (by decide) (by decide) (by decide)]; exact hq.2.2.2.1⟩
  rw [g4, f4, nI_leI (by omega) (by omega)]
  omega
theorem k_aloneOf (hT : w.1.stackTraces = false) (hq : kQ I S N sd e1 e2 pr fm l) {s : Nat} (hs : s < S) : ∃ J r, kfr J I ∧ alP S N sd e1 e2 pr l s r ∧ ab_PU w (d + 3) mt_K_aloneOf [.ref kx, .int (nI s)] I L n nc ns r J := by
  have p4 := hq.1.1.2.2.2.1
  have hsd := hq.1.2.2.2.1
  have hsN := hq.1.2.2.2.2.1
  obtain ⟨r1, a1, a2⟩ := k_endingAt (w := w) (d := d + 2) (n := n) (nc := nc) (ns := ns) (L := L) hT hq.1 hs
  obtain ⟨r2, b1, b2⟩ := k_cheapestOf (w := w) (d := d + 2) (n := n) (nc := nc) (ns := ns) (L := L) hT hq.1 (v := r1 &&& I kx_now_cables 2) (am := fun k => decide (k < N) && enB e1 e2 s k && sd k) (fun k hk => by rw [b_and, a1 k hk, hsd k hk])
  rcases b1 with ⟨h1, h2⟩ | ⟨c, h1, h2, h3, h4⟩
  · refine ⟨I, -1, kfr_refl, Or.inl ⟨rfl, fun x hx => ?_⟩, ?_⟩
    · have := h2 x (hsN x hx.1)
      simp [hsN x hx.1, hx.1, hx.2] at this
    · refine ab_C_of (by decide) rfl (Nat.le_of_ble_eq_true rfl) hT ?_
      refine r_K_aloneOf_0 hT _ (Nat.le_refl _) (Nat.le_refl _) ?_
      exact ⟨r1, a2, r2, b2, fun h => absurd h1 h, fun _ => rfl⟩
  · obtain ⟨J, g1, g2⟩ := g0_ok (w := w) (d := d) (n := n) (nc := nc) (ns := ns) (L := L) hT hq.1.1 (am := fun k => sd k && !(sd k && enB e1 e2 s k && !decide (k = c))) (v := ((I kx_now_cables 2) &&& (r1 ^^^ (-1))) ||| ((1 : Int32) <<< (r2 &&& 31))) (fun k hk => by
      rw [h1, b_or, b_and, ab_bnot _ (by omega), a1 k (by omega), hsd k (by omega), ab_sh1 (by omega) (by omega)]
      have hc : sd c = true := by
        simp at h3; exact h3.2
      by_cases e : k = c
      · subst e; simp [hc]
      · rw [decide_eq_false e]
        cases hk2 : sd k with
        | false => rfl
        | true => rw [decide_eq_true (hsN k hk2)]; cases enB e1 e2 s k <;> rfl)
    simp at h3
    obtain ⟨l1, l2, l3⟩ := ls_k hq g1 (X := J kx_trialNet 3 - J kx_forest 3) (fun _ => rfl)
    refine ⟨J, ls_v pr (net e1 e2 sd l) (net e1 e2 (fun k => sd k && !(sd k && enB e1 e2 s k && !decide (k = c))) l), gr_kfr g1, Or.inr ⟨c, h3.2, h3.1.2, fun x hx => h4 x (hsN x hx.1) (by simp [hx.1, hx.2, hsN x hx.1]), rfl⟩, ?_⟩
    unfold ls_v
    refine ab_C_of (by decide) rfl (Nat.le_of_ble_eq_true rfl) hT ?_
    refine r_K_aloneOf_0 hT _ (Nat.le_refl _) (Nat.le_refl _) ?_
    refine ⟨r1, a2, r2, b2, fun _ => ⟨J, g2, fun h => ?_, fun h => ?_⟩, fun h => absurd h (by rw [h1]; exact nI_m1 (by omega))⟩
    · rw [if_neg (l1.mp h), l2, l3]
    · rw [if_pos (Classical.byContradiction fun g => h (l1.mpr g))]
/-- what a firm is PAID -/
noncomputable def pyV (N : Nat) (sd : Nat → Bool) (e1 e2 pr : Nat → Nat) (l : List Nat) (ow : Nat → Bool) : Int32 := if (net e1 e2 (fun k => sd k && !ow k) l).length < (net e1 e2 sd l).length then -1 else nI ((net e1 e2 (fun k => sd k && !ow k) l).map pr).sum - nI (smf (fun k => if (decide (k ∈ net e1 e2 sd l) && !ow k) = true then pr k else 0) N)
theorem k_payOf (hT : w.1.stackTraces = false) (hq : kQ I S N sd e1 e2 pr fm l) {v : Int32} {ow : Nat → Bool} (hv : ∀ k, k < 32 → bt v k = (decide (k < N) && ow k)) : ∃ J, kfr J I ∧ ab_PU w (d + 3) mt_K_payOf [.ref kx, .int v] I L n nc ns (pyV N sd e1 e2 pr l ow) J := by
  have p4 := hq.1.1.2.2.2.1
  have hsd := hq.1.2.2.2.1
  have hsN := hq.1.2.2.2.2.1
  obtain ⟨J, g1, g2⟩ := g0_ok (w := w) (d := d) (n := n) (nc := nc) (ns := ns) (L := L) hT hq.1.1 (am := fun k => sd k && !ow k) (v := (I kx_now_cables 2) &&& (v ^^^ (-1))) (fun k hk => by
    rw [b_and, ab_bnot _ (by omega), hsd k (by omega), hv k (by omega)]
    cases h : sd k with
    | false => rfl
    | true => rw [decide_eq_true (hsN k h)]; rfl)
  obtain ⟨l1, l2, l3⟩ := ls_k hq g1 (X := J kx_trialNet 3 - J kx_forest 3) (fun _ => rfl)
  have hqJ := kQ_fr (gr_kfr g1) hq
  have pp := k_pricesOf (w := w) (d := d + 2) (n := n) (nc := nc) (ns := ns) (L := L) hT hqJ.1 (v := (J kx_forest 2) &&& (v ^^^ (-1))) (am := fun k => decide (k ∈ net e1 e2 sd l) && !ow k) (fun k hk => by
    rw [b_and, ab_bnot _ (by omega), kq_bits hqJ hk, hv k hk]
    by_cases h : k ∈ net e1 e2 sd l
    · rw [decide_eq_true ((kq_mem hq k).mp h).1, Bool.true_and]
    · rw [decide_eq_false h]; rfl)
  refine ⟨J, gr_kfr g1, ?_⟩
  unfold pyV
  refine ab_C_of (by decide) rfl (Nat.le_of_ble_eq_true rfl) hT ?_
  refine r_K_payOf_0 hT _ (Nat.le_refl _) (Nat.le_refl _) ?_
  refine ⟨J, g2, fun h => ⟨_, pp, ?_⟩, fun h => ?_⟩
  · rw [if_neg (l1.mp h), l2]
  · rw [if_pos (Classical.byContradiction fun g => h (l1.mpr g))]
/-- the model's way to the same -/
theorem py_eq (hq : kQ I S N sd e1 e2 pr fm l) (ow : Nat → Bool) : (ls_v pr (net e1 e2 sd l) (net e1 e2 (fun k => sd k && !ow k) l) = -1 → pyV N sd e1 e2 pr l ow = -1) ∧ (¬ ls_v pr (net e1 e2 sd l) (net e1 e2 (fun k => sd k && !ow k) l) = -1 → pyV N sd e1 e2 pr l ow = ls_v pr (net e1 e2 sd l) (net e1 e2 (fun k => sd k && !ow k) l) + nI (smf (fun k => if (decide (k ∈ net e1 e2 sd l) && ow k) = true then pr k else 0) N)) := by
  obtain ⟨h1, h2⟩ := rem_many hq.1.2.1 (kq_hw hq.1) (kq_ne hq.1) (kq_hp hq.1) sd ow
  have p4 := hq.1.1.2.2.2.1
  have hs := net_smf (e1 := e1) (e2 := e2) hq.1.2.1 sd
  have hsp : smf (fun k => if decide (k ∈ net e1 e2 sd l) = true then pr k else 0) N = smf (fun k => if (decide (k ∈ net e1 e2 sd l) && ow k) = true then pr k else 0) N + smf (fun k => if (decide (k ∈ net e1 e2 sd l) && !ow k) = true then pr k else 0) N := smf_split (fun k _ => by
    cases decide (k ∈ net e1 e2 sd l) <;> cases ow k <;> simp)
  have hb : ((net e1 e2 (fun k => sd k && !ow k) l).map pr).sum ≤ 999 * N := by
    rw [net_smf (e1 := e1) (e2 := e2) hq.1.2.1]
    exact smf_le (fun k hk => by have := (kq_hp hq.1 k hk).2; split <;> omega)
  rw [hsp] at hs
  unfold pyV ls_v
  by_cases h : (net e1 e2 (fun k => sd k && !ow k) l).length < (net e1 e2 sd l).length
  · rw [if_pos h, if_pos h]
    exact ⟨fun _ => rfl, fun g => absurd rfl g⟩
  · rw [if_neg h, if_neg h]
    have h3 := h2 (by omega)
    rw [nI_sub h3]
    refine ⟨fun g => absurd g (nI_m1 (by omega)), fun _ => ?_⟩
    rw [nI_add]
    have e1' : ((net e1 e2 (fun k => sd k && !ow k) l).map pr).sum - ((net e1 e2 sd l).map pr).sum + smf (fun k => if (decide (k ∈ net e1 e2 sd l) && ow k) = true then pr k else 0) N = ((net e1 e2 (fun k => sd k && !ow k) l).map pr).sum - smf (fun k => if (decide (k ∈ net e1 e2 sd l) && !ow k) = true then pr k else 0) N := by omega
    rw [e1', nI_sub (by omega)]
end KPY
