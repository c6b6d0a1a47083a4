/-! THE TWO SIDE BY SIDE: firm, group, without -/
section JFI
variable {w : ab_Wd} {d n nc ns : Nat} {I : Nat → Nat → Int32} {L : Nat → Nat → Int64}
variable {S N : Nat} {sd : Nat → Bool} {e1 e2 pr fm : Nat → Nat} {l : List Nat}
theorem j_firm (hT : w.1.stackTraces = false) (hR : RQ I S N sd e1 e2 pr fm l) (v u : Int32) : (∃ J, qOk w (d + 16) mt_K_firm mt_M_firm [.int v, .int u] I L n nc ns J) ∨ qNo w (d + 16) mt_K_firm mt_M_firm [.int v, .int u] I L n nc ns I "java/util/NoSuchElementException" 1 := by
  obtain ⟨hq, hm, -⟩ := hR
  have hm0 : mC (ab_up I mx 1 0) S N sd e1 e2 pr fm l := mC_gr mgr_c hm
  have p4 := hq.1.1.2.2.2.1
  have hsd := hq.1.2.2.2.1
  rcases v_cs v 3 (by decide) with ⟨f, hf, e, f1, f2⟩ | ⟨-, hbad⟩
  · have f4 : ¬ 4 ≤ v := fun h => by
      rw [e] at h
      have := (nI_leI (a := 4) (by omega) (by omega)).mp h
      omega
    subst e
    have own := k_ofFirm (d := d + 15) (w := w) (n := n) (nc := nc) (ns := ns) (L := L) hT hq.1 (f := f) (by omega)
    have hob : ∀ k, k < 32 → bt (ab_mask N (fun k => decide (fm k = f))) k = (decide (k < N) && decide (fm k = f)) := fun k hk => ab_mask_bt _ _ (by omega) k hk
    have hsb : ∀ k, k < 32 → bt (ab_mask N (fun k => sd k && decide (fm k = f))) k = (decide (k < N) && (sd k && decide (fm k = f))) := fun k hk => ab_mask_bt _ _ (by omega) k hk
    generalize ab_mask N (fun k => decide (fm k = f)) = ow at *
    rcases v_cs u 2 (by decide) with ⟨i, hi, e, g1, g2⟩ | ⟨hout, hout2⟩
    · subst e
      left
      have hi : i = 0 ∨ i = 1 ∨ i = 2 := by omega
      rcases hi with e | e | e <;> subst e
      · refine ⟨I, kfr_refl, ow &&& I kx_now_cables 2, ?_, fun L n nc ns => ?_⟩
        · refine ab_C_of (by decide) rfl (Nat.le_of_ble_eq_true rfl) hT ?_
          refine r_K_firm_0 hT _ _ (by omega) (Nat.le_refl _) (Nat.le_refl _) ?_
          refine bb_f f1 (bb_f f4 ⟨ow, own, ?_⟩)
          (and_intros <;> intro h <;> first | exact absurd h (by decide) | exact rfl)
        · have so := z_soundOf (d := d + 14) (w := w) (n := n) (nc := nc) (ns := ns) (L := L) hT hm0 (f := f) (by omega)
          have e : ow &&& I kx_now_cables 2 = ab_mask N (fun k => sd k && decide (fm k = f)) := b_ext fun k hk => by
            rw [b_and, hob k hk, hsb k hk, hsd k hk]
            cases decide (k < N) <;> cases sd k <;> cases decide (fm k = f) <;> rfl
          rw [e]
          refine ⟨_, mgr_0.1, mgr_0.2, ?_⟩
          refine ab_C_of (by decide) rfl (Nat.le_of_ble_eq_true rfl) hT ?_
          refine r_M_firm_0 hT _ _ (Nat.le_refl _) (Nat.le_refl _) ?_
          refine bb_f f1 (bb_f f2 (bb_f g1 (bb_f g2 ⟨_, so, ?_⟩)))
          exact bb_f (by decide) (bb_t' rfl rfl)
      · have pp := k_pricesOf (d := d + 15) (w := w) (n := n) (nc := nc) (ns := ns) (L := L) hT hq.1 (v := ow &&& I kx_forest 2) (am := fun k => decide (k < N) && decide (fm k = f) && decide (k ∈ net e1 e2 sd l)) (fun k hk => by rw [b_and, hob k hk, kq_bits hq hk])
        refine ⟨I, kfr_refl, nI (smf (fun k => if (decide (k < N) && decide (fm k = f) && decide (k ∈ net e1 e2 sd l)) = true then pr k else 0) N), ?_, fun L n nc ns => ?_⟩
        · refine ab_C_of (by decide) rfl (Nat.le_of_ble_eq_true rfl) hT ?_
          refine r_K_firm_0 hT _ _ (by omega) (Nat.le_refl _) (Nat.le_refl _) ?_
          refine bb_f f1 (bb_f f4 ⟨ow, own, ?_⟩)
          (and_intros <;> intro h <;> first | exact absurd h (by decide) | exact ⟨_, pp, rfl⟩)
        · have so := z_soundOf (d := d + 14) (w := w) (n := n) (nc := nc) (ns := ns) (L := L) hT hm0 (f := f) (by omega)
          obtain ⟨I9, r8, n1, n2, n3⟩ := z_netNow (d := d + 12) (w := w) (n := n) (nc := nc) (ns := ns) (L := L) hT hm0
          have pm := z_pricesOf (d := d + 14) (w := w) (n := n) (nc := nc) (ns := ns) (L := L) hT (mC_fr (mfr_nm n1) hm0).1 (v := ab_mask N (fun k => sd k && decide (fm k = f)) &&& r8) (am := fun k => decide (k < N) && (sd k && decide (fm k = f)) && decide (k ∈ net e1 e2 sd l)) (fun k hk => by rw [b_and, hsb k hk, n2 k hk])
          have e : smf (fun k => if (decide (k < N) && decide (fm k = f) && decide (k ∈ net e1 e2 sd l)) = true then pr k else 0) N = smf (fun k => if (decide (k < N) && (sd k && decide (fm k = f)) && decide (k ∈ net e1 e2 sd l)) = true then pr k else 0) N := smf_cong (fun k hk => by
            by_cases h : k ∈ net e1 e2 sd l
            · rw [((kq_mem hq k).mp h).2.1, Bool.true_and]
            · rw [decide_eq_false h, Bool.and_false, Bool.and_false])
          rw [e]
          refine ⟨I9, (mfr_ok (mfr_nm n1)).1, (mfr_ok (mfr_nm n1)).2, ?_⟩
          refine ab_C_of (by decide) rfl (Nat.le_of_ble_eq_true rfl) hT ?_
          refine r_M_firm_0 hT _ _ (Nat.le_refl _) (Nat.le_refl _) ?_
          refine bb_f f1 (bb_f f2 (bb_f g1 (bb_f g2 ⟨_, so, ?_⟩)))
          exact bb_f (by decide) (bb_f' (by decide) ⟨_, I9, n3, _, pm, rfl⟩)
      · obtain ⟨J, c1, c3⟩ := k_payOf (d := d + 12) (w := w) (n := n) (nc := nc) (ns := ns) (L := L) hT hq (ow := fun k => decide (fm k = f)) hob
        refine ⟨J, c1, pyV N sd e1 e2 pr l (fun k => decide (fm k = f)), ?_, fun L n nc ns => ?_⟩
        · refine ab_C_of (by decide) rfl (Nat.le_of_ble_eq_true rfl) hT ?_
          refine r_K_firm_0 hT _ _ (by omega) (Nat.le_refl _) (Nat.le_refl _) ?_
          refine bb_f f1 (bb_f f4 ⟨ow, own, ?_⟩)
          (and_intros <;> intro h <;> first | exact absurd h (by decide) | exact ⟨_, J, c3, rfl⟩)
        · have hm1 : mC (ab_up J mx 1 0) S N sd e1 e2 pr fm l := mC_gr mgr_c (mC_kfr c1 hm)
          have so := z_soundOf (d := d + 14) (w := w) (n := n) (nc := nc) (ns := ns) (L := L) hT hm1 (f := f) (by omega)
          obtain ⟨I8, t1, t3⟩ := z_lossOf (d := d + 11) (w := w) (n := n) (nc := nc) (ns := ns) (L := L) hT hm1 (x := ab_mask N (fun k => sd k && decide (fm k = f))) (xo := fun k => decide (k < N) && (sd k && decide (fm k = f))) hsb
          have en : net e1 e2 (fun k => sd k && !(decide (k < N) && (sd k && decide (fm k = f)))) l = net e1 e2 (fun k => sd k && !decide (fm k = f)) l := net_am hq.1.2.1 (fun k hk => by
            rw [decide_eq_true hk]; cases sd k <;> cases decide (fm k = f) <;> rfl)
          rw [en] at t3
          obtain ⟨h1, h2⟩ := py_eq hq (fun k => decide (fm k = f))
          by_cases hl : ls_v pr (net e1 e2 sd l) (net e1 e2 (fun k => sd k && !decide (fm k = f)) l) = -1
          · rw [h1 hl]
            refine ⟨I8, (mfr_ok t1).1, (mfr_ok t1).2, ?_⟩
            refine ab_C_of (by decide) rfl (Nat.le_of_ble_eq_true rfl) hT ?_
            refine r_M_firm_0 hT _ _ (Nat.le_refl _) (Nat.le_refl _) ?_
            refine bb_f f1 (bb_f f2 (bb_f g1 (bb_f g2 ⟨_, so, ?_⟩)))
            exact bb_t (by decide) ⟨_, I8, t3, bb_t' hl rfl⟩
          · obtain ⟨I9, r8, n1, n2, n3⟩ := z_netNow (d := d + 12) (w := w) (n := n) (nc := nc) (ns := ns) (L := L) hT (mC_fr t1 hm1)
            have pm := z_pricesOf (d := d + 14) (w := w) (n := n) (nc := nc) (ns := ns) (L := L) hT (mC_fr (mfr_nm n1) (mC_fr t1 hm1)).1 (v := ab_mask N (fun k => sd k && decide (fm k = f)) &&& r8) (am := fun k => decide (k < N) && (sd k && decide (fm k = f)) && decide (k ∈ net e1 e2 sd l)) (fun k hk => by rw [b_and, hsb k hk, n2 k hk])
            have e : smf (fun k => if (decide (k ∈ net e1 e2 sd l) && decide (fm k = f)) = true then pr k else 0) N = smf (fun k => if (decide (k < N) && (sd k && decide (fm k = f)) && decide (k ∈ net e1 e2 sd l)) = true then pr k else 0) N := smf_cong (fun k hk => by
              by_cases h : k ∈ net e1 e2 sd l
              · rw [((kq_mem hq k).mp h).2.1, decide_eq_true hk, decide_eq_true h, Bool.true_and, Bool.true_and, Bool.and_true]
              · rw [decide_eq_false h, Bool.and_false, Bool.false_and])
            rw [h2 hl, e]
            have f9 := mfr_trans (mfr_nm n1) t1
            refine ⟨I9, (mfr_ok f9).1, (mfr_ok f9).2, ?_⟩
            refine ab_C_of (by decide) rfl (Nat.le_of_ble_eq_true rfl) hT ?_
            refine r_M_firm_0 hT _ _ (Nat.le_refl _) (Nat.le_refl _) ?_
            refine bb_f f1 (bb_f f2 (bb_f g1 (bb_f g2 ⟨_, so, ?_⟩)))
            exact bb_t (by decide) ⟨_, I8, t3, bb_f' hl ⟨_, I9, n3, _, pm, rfl⟩⟩
    · right
      have hne : ∀ i, i ≤ 2 → u ≠ nI i := fun i hi e => by
        subst e; rw [nI_toInt (by omega)] at hout; omega
      refine ⟨kfr_refl, ?_, fun L n nc ns => ⟨0, _, mgr_x.1, mgr_x.2, ?_⟩⟩
      · refine ab_C_of (by decide) rfl (Nat.le_of_ble_eq_true rfl) hT ?_
        refine r_K_firm_0 hT _ _ (by omega) (Nat.le_add_right _ _) (Nat.le_add_right _ _) ?_
        refine bb_f f1 (bb_f f4 ⟨ow, own, ?_⟩)
        (and_intros <;> intro h <;> first | exact absurd h (hne _ (by decide)) | rfl)
      · refine ab_C_of (by decide) rfl (Nat.le_of_ble_eq_true rfl) hT ?_
        refine r_M_firm_0 hT _ _ (Nat.le_refl _) (Nat.le_refl _) ?_
        refine bb_f f1 (bb_f f2 ?_)
        rcases hout2 with h | ⟨h1, h2⟩
        · exact bb_t h rfl
        · exact bb_f h1 (bb_t h2 rfl)
  · right
    refine ⟨kfr_refl, ?_, fun L n nc ns => ⟨0, _, mgr_x.1, mgr_x.2, ?_⟩⟩
    · refine ab_C_of (by decide) rfl (Nat.le_of_ble_eq_true rfl) hT ?_
      refine r_K_firm_0 hT _ _ (by omega) (Nat.le_add_right _ _) (Nat.le_add_right _ _) ?_
      rcases hbad with h | ⟨h1, h2⟩
      · exact bb_t h rfl
      · refine bb_f h1 (bb_t ?_ rfl)
        rw [Int32.lt_iff_toInt_lt] at h2
        rw [Int32.le_iff_toInt_le]
        rw [show (nI 3).toInt = 3 by decide] at h2
        rw [show (4 : Int32).toInt = 4 by decide]
        omega
    · refine ab_C_of (by decide) rfl (Nat.le_of_ble_eq_true rfl) hT ?_
      refine r_M_firm_0 hT _ _ (Nat.le_refl _) (Nat.le_refl _) ?_
      rcases hbad with h | ⟨h1, h2⟩
      · exact bb_t h rfl
      · exact bb_f h1 (bb_t h2 rfl)
theorem j_without (hT : w.1.stackTraces = false) (hR : RQ I S N sd e1 e2 pr fm l) (v u : Int32) : (∃ J, qOk w (d + 16) mt_K_without mt_M_without [.int v, .int u] I L n nc ns J) ∨ ∃ J, qNo w (d + 16) mt_K_without mt_M_without [.int v, .int u] I L n nc ns J "java/util/NoSuchElementException" 1 := by
  obtain ⟨hq, hm, -⟩ := hR
  have p1 := hq.1.1.1
  have p3 := hq.1.1.2.2.1
  have p4 := hq.1.1.2.2.2.1
  have hsd := hq.1.2.2.2.1
  have hsN := hq.1.2.2.2.2.1
  have z1 : I mx 2 = nI S := hm.1.1
  rcases k_needSite (d := d + 7) (w := w) (n := n) (nc := nc) (ns := ns) (L := L) hT p1 p3 v with ⟨s, hs, e, need⟩ | ⟨hbad, need⟩
  · subst e
    obtain ⟨a1, a2, a3, a4⟩ := v_rg1 hs (by omega)
    obtain ⟨r2, b1, b2⟩ := k_endingAt (d := d + 15) (w := w) (n := n) (nc := nc) (ns := ns) (L := L) hT hq.1 hs
    obtain ⟨J, c1, c2⟩ := g0_ok (d := d + 13) (w := w) (n := n) (nc := nc) (ns := ns) (L := L) hT hq.1.1 (am := fun k => sd k && !(decide (k < N) && enB e1 e2 s k)) (v := (I kx_now_cables 2) &&& (r2 ^^^ (-1))) (fun k hk => by
      rw [b_and, ab_bnot _ (by omega), hsd k (by omega), b1 k (by omega)])
    have ck := gr_kfr c1
    have t3 : J kx_trialNet 3 = nI (((kr e1 e2 (l.filter (fun k => sd k && !(decide (k < N) && enB e1 e2 s k)))).1.map pr).sum) := c1.2.2.2.1
    have t4 : J kx_trialNet 4 = nI (S - (kr e1 e2 (l.filter (fun k => sd k && !(decide (k < N) && enB e1 e2 s k)))).1.length) := c1.2.2.2.2.1
    have tl : (kr e1 e2 (l.filter (fun k => sd k && !(decide (k < N) && enB e1 e2 s k)))).1.length + 1 ≤ S := kq_lenA hq.1 _
    have hm0 : mC (ab_up J mx 1 0) S N sd e1 e2 pr fm l := mC_gr mgr_c (mC_kfr ck hm)
    have z1' : J mx 2 = nI S := by rw [ck _ (by unfold kscr; decide)]; exact z1
    rcases v_cs u 1 (by decide) with ⟨i, hi, e, g1, g2⟩ | ⟨hout, hout2⟩
    · subst e
      left
      have model : ∀ (L : Nat → Nat → Int64) (n nc ns : Nat) (X : Int32), (∀ K, nm_st K (ab_up J mx 1 0) S pr (kr e1 e2 (l.filter (fun k => sd k && !(decide (k < N) && enB e1 e2 s k)))) → (¬ nI i = 0 → X = ((K mx 2) - (K mx 21)) - 1) ∧ (nI i = 0 → X = K mx 22)) → ∃ K, mgr K J ∧ K mx 1 = 0 ∧ ab_PU w (d + 16) mt_M_without [.ref mx, .int (nI s), .int (nI i)] J L n nc ns X K := by
        intro L n nc ns X hX
        obtain ⟨⟨m1, m2, m3, m4, m5, m6⟩, m7, m8, m9, m10⟩ := id hm0
        have loop : ∀ m j (x : Int32), j + m = N → (∀ k, k < 32 → bt x k = (sd k && !(decide (k < j) && enB e1 e2 s k))) → ∃ K, mgr K J ∧ K mx 1 = 0 ∧ ab_E w ((d + 14) + 2) mt_M_without 38 [.ref mx, .int (nI s), .int (nI i), .int x, .int (nI j)] [] ((ab_up J mx 1 0), L, ab_RR, n, nc, ns) (.inl (some (.int X)), (K, L, ab_RR, n, nc, ns)) := by
          intro m
          induction m with
          | zero =>
            intro j x hj hx
            have e : j = N := by omega
            subst e
            obtain ⟨K, r, k1, k2, k3⟩ := z_netOf (d := d + 13) (w := w) (n := n) (nc := nc) (ns := ns) (L := L) hT hm0.1 (am := fun k => sd k && !(decide (k < j) && enB e1 e2 s k)) hx (fun k hk => by
              simp at hk; exact hsN k hk.1)
            obtain ⟨x1, x2⟩ := hX K k1
            refine ⟨K, (mfr_ok (mfr_nm k1)).1, (mfr_ok (mfr_nm k1)).2, ?_⟩
            refine r_M_without_38 hT _ _ _ _ (Nat.le_refl _) (Nat.le_refl _) ?_
            refine bb_t (by rw [m2]; exact nI_le (Nat.le_refl _) (by omega)) ⟨r, K, k3, fun h => ?_, fun h => ?_⟩
            · rw [x1 h]
            · rw [x2 h]
          | succ m ih =>
            intro j x hj hx
            obtain ⟨q1, q2, q3, q4, q5, q6⟩ := m6 j (by omega)
            have hNj : ¬ N ≤ j := by omega
            by_cases he : enB e1 e2 s j = true
            · obtain ⟨K, b1, b2, b3⟩ := ih (j + 1) (x &&& (((1 : Int32) <<< (nI j &&& 31)) ^^^ (-1))) (by omega) (fun k hk => by
                rw [b_and, hx k hk, ab_bnot _ hk, ab_sh1 (by omega) hk]
                by_cases e : k = j
                · rw [e, decide_eq_true rfl, decide_eq_true (show j < j + 1 by omega), he]; simp
                · rw [decide_eq_false e, show decide (k < j + 1) = decide (k < j) from decide_eq_decide.mpr (by omega)]; simp)
              refine ⟨K, b1, b2, ?_⟩
              unfold enB at he
              by_cases h1 : e1 j = s
              · refine r_M_without_38 hT _ _ _ _ (Nat.le_refl _) (Nat.le_refl _) ?_
                simp (disch := first | omega | decide) only [m2, hNj, q1, q2, h1, nl_add1, nl_add2, nl_mul1, nl_mul2, nl_sub1, nl_lt1, nl_lt2, nl_le1, nl_le2, nl_eq1, nl_eq2, nl_m1, nl_m2, nl_inT, nI_add, nI_mul, nI_leI, nI_ltI, nI_eq, nI_clamp, nl_bit, oI_n, oI_s, oI_m1, true_and, and_true, eq_self, Bool.false_eq_true, not_false_eq_true, not_true_eq_false, false_implies, true_implies, implies_true, forall_const, Nat.not_lt_zero, ab_row_eq, ab_row_ne, ab_up_i, ab_up_o, pk_us, pk_un, ab_row_row]
                exact b3
              · have h2 : e2 j = s := by simp [h1] at he; exact he
                refine r_M_without_38 hT _ _ _ _ (Nat.le_refl _) (Nat.le_refl _) ?_
                simp (disch := first | omega | decide) only [m2, hNj, q1, q2, h1, h2, nl_add1, nl_add2, nl_mul1, nl_mul2, nl_sub1, nl_lt1, nl_lt2, nl_le1, nl_le2, nl_eq1, nl_eq2, nl_m1, nl_m2, nl_inT, nI_add, nI_mul, nI_leI, nI_ltI, nI_eq, nI_clamp, nl_bit, oI_n, oI_s, oI_m1, true_and, and_true, eq_self, Bool.false_eq_true, not_false_eq_true, not_true_eq_false, false_implies, true_implies, implies_true, forall_const, Nat.not_lt_zero, ab_row_eq, ab_row_ne, ab_up_i, ab_up_o, pk_us, pk_un, ab_row_row]
                exact b3
            · obtain ⟨K, b1, b2, b3⟩ := ih (j + 1) x (by omega) (fun k hk => by
                rw [hx k hk]
                by_cases e : k = j
                · rw [e]; cases h : enB e1 e2 s j with
                  | true => exact absurd h he
                  | false => simp
                · rw [show decide (k < j + 1) = decide (k < j) from decide_eq_decide.mpr (by omega)])
              refine ⟨K, b1, b2, ?_⟩
              unfold enB at he
              have h1 : ¬ e1 j = s := fun h => he (by simp [h])
              have h2 : ¬ e2 j = s := fun h => he (by simp [h])
              refine r_M_without_38 hT _ _ _ _ (Nat.le_refl _) (Nat.le_refl _) ?_
              simp (disch := first | omega | decide) only [m2, hNj, q1, q2, h1, h2, nl_add1, nl_add2, nl_mul1, nl_mul2, nl_sub1, nl_lt1, nl_lt2, nl_le1, nl_le2, nl_eq1, nl_eq2, nl_m1, nl_m2, nl_inT, nI_add, nI_mul, nI_leI, nI_ltI, nI_eq, nI_clamp, nl_bit, oI_n, oI_s, oI_m1, true_and, and_true, eq_self, Bool.false_eq_true, not_false_eq_true, not_true_eq_false, false_implies, true_implies, implies_true, forall_const, Nat.not_lt_zero, ab_row_eq, ab_row_ne, ab_up_i, ab_up_o, pk_us, pk_un, ab_row_row]
              exact b3
        obtain ⟨K, b1, b2, b3⟩ := loop N 0 (J mx_now 1) (by omega) (fun k hk => by
          have := m8 k hk
          rw [ab_up_o (by decide)] at this
          rw [this]; simp)
        refine ⟨K, b1, b2, ?_⟩
        refine ab_C_of (by decide) rfl (Nat.le_of_ble_eq_true rfl) hT ?_
        refine r_M_without_0 hT _ _ (Nat.le_refl _) (Nat.le_refl _) ?_
        exact bb_f a1 (bb_f (by rw [z1']; exact a3) (bb_f g1 (bb_f g2 b3)))
      have hi : i = 0 ∨ i = 1 := by omega
      rcases hi with e | e <;> subst e
      · refine ⟨J, ck, J kx_trialNet 3, ?_, fun L n nc ns => model L n nc ns _ (fun K hK => ⟨fun h => absurd rfl h, fun _ => ?_⟩)⟩
        · refine ab_C_of (by decide) rfl (Nat.le_of_ble_eq_true rfl) hT ?_
          refine r_K_without_0 hT _ _ (by omega) (Nat.le_refl _) (Nat.le_refl _) ?_
          refine Or.inl ⟨need, r2, b2, J, c2, ?_⟩
          (and_intros <;> intro h <;> first | exact absurd h (by decide) | exact rfl)
        · rw [t3, hK.2.2.2.1]
      · refine ⟨J, ck, J kx_trialNet 4 - 1, ?_, fun L n nc ns => model L n nc ns _ (fun K hK => ⟨fun _ => ?_, fun h => absurd h (by decide)⟩)⟩
        · refine ab_C_of (by decide) rfl (Nat.le_of_ble_eq_true rfl) hT ?_
          refine r_K_without_0 hT _ _ (by omega) (Nat.le_refl _) (Nat.le_refl _) ?_
          refine Or.inl ⟨need, r2, b2, J, c2, ?_⟩
          (and_intros <;> intro h <;> first | exact absurd h (by decide) | exact rfl)
        · rw [t4, hK.2.2.1, hK.2.1 2 (by omega) (by omega), ab_up_i, pk_un (by omega), z1', nI_sub (by omega)]
    · right
      have hne : ∀ i, i ≤ 1 → u ≠ nI i := fun i hi e => by
        subst e; rw [nI_toInt (by omega)] at hout; omega
      refine ⟨J, ck, ?_, fun L n nc ns => ⟨0, _, mgr_x.1, mgr_x.2, ?_⟩⟩
      · refine ab_C_of (by decide) rfl (Nat.le_of_ble_eq_true rfl) hT ?_
        refine r_K_without_0 hT _ _ (by omega) (Nat.le_add_right _ _) (Nat.le_add_right _ _) ?_
        refine Or.inl ⟨need, r2, b2, J, c2, ?_⟩
        exact ⟨fun h => absurd h (hne 0 (by omega)), fun h => absurd h (hne 1 (by omega)), fun _ => rfl⟩
      · refine ab_C_of (by decide) rfl (Nat.le_of_ble_eq_true rfl) hT ?_
        refine r_M_without_0 hT _ _ (Nat.le_refl _) (Nat.le_refl _) ?_
        refine bb_f a1 (bb_f (by rw [z1']; exact a3) ?_)
        rcases hout2 with h | ⟨h1, h2⟩
        · exact bb_t h rfl
        · exact bb_f h1 (bb_t h2 rfl)
  · right
    refine ⟨I, kfr_refl, ?_, fun L n nc ns => ⟨0, _, mgr_x.1, mgr_x.2, ?_⟩⟩
    · refine ab_C_of (by decide) rfl (Nat.le_of_ble_eq_true rfl) hT ?_
      refine r_K_without_0 hT _ _ (by omega) (Nat.le_add_right _ _) (Nat.le_add_right _ _) ?_
      exact Or.inr ⟨_, need, rfl⟩
    · refine ab_C_of (by decide) rfl (Nat.le_of_ble_eq_true rfl) hT ?_
      refine r_M_without_0 hT _ _ (Nat.le_refl _) (Nat.le_refl _) ?_
      rcases hbad with h | ⟨h1, h2⟩
      · exact bb_t h rfl
      · exact bb_f h1 (bb_t (by rw [z1]; exact h2) rfl)
theorem v_rg2 (v : Int32) (m : Nat) (hm : m + 1 < 2 ^ 31) : (∃ i, 1 ≤ i ∧ i ≤ m ∧ v = nI i ∧ ¬ v < 1 ∧ v ≤ nI m ∧ ¬ nI m < v) ∨ v < 1 ∨ (¬ v < 1 ∧ ¬ v ≤ nI m ∧ nI m < v) := by
  have z : (1 : Int32).toInt = 1 := by decide
  by_cases h : v < 1
  · exact Or.inr (Or.inl h)
  · have h0 : 1 ≤ v.toInt := by
      rw [Int32.lt_iff_toInt_lt, z] at h; omega
    by_cases g : v.toInt ≤ m
    · refine Or.inl ⟨v.toInt.toNat, by omega, by omega, ?_, h, ?_, ?_⟩
      · apply Int32.toInt_inj.mp
        rw [nI_toInt (by omega)]
        omega
      · rw [Int32.le_iff_toInt_le, nI_toInt (by omega)]; omega
      · rw [Int32.lt_iff_toInt_lt, nI_toInt (by omega)]; omega
    · refine Or.inr (Or.inr ⟨h, ?_, ?_⟩)
      · rw [Int32.le_iff_toInt_le, nI_toInt (by omega)]; omega
      · rw [Int32.lt_iff_toInt_lt, nI_toInt (by omega)]; omega
theorem j_group (hT : w.1.stackTraces = false) (hR : RQ I S N sd e1 e2 pr fm l) (v u : Int32) : (∃ J, qOk w (d + 16) mt_K_group mt_M_group [.int v, .int u] I L n nc ns J) ∨ qNo w (d + 16) mt_K_group mt_M_group [.int v, .int u] I L n nc ns I "java/lang/IllegalArgumentException" 1 ∨ qNo w (d + 16) mt_K_group mt_M_group [.int v, .int u] I L n nc ns I "java/util/NoSuchElementException" 2 := by
  obtain ⟨hq, hm, -⟩ := hR
  have hm0 : mC (ab_up I mx 1 0) S N sd e1 e2 pr fm l := mC_gr mgr_c hm
  have p1 := hq.1.1.1
  have p3 := hq.1.1.2.2.1
  have p4 := hq.1.1.2.2.2.1
  have hlen := kq_lenA hq.1 sd
  have f1 : I kx_forest 1 = nI (net e1 e2 sd l).length := hq.2.1
  have f2 : ∀ j, j < (net e1 e2 sd l).length → I kx_forest_order j = nI ((net e1 e2 sd l).getD j 0) := hq.2.2.2.2.2.1
  have z1 : I mx 2 = nI S := hm.1.1
  rcases v_rg2 v S (by omega) with ⟨k, hk1, hk2, e, g1, g2, g3⟩ | hbad
  · subst e
    have emin : ab_min32 (I kx_forest 1) ((I kx_now_cables 0) - nI k) = nI (min (net e1 e2 sd l).length (S - k)) := by
      rw [f1, p1, nI_sub hk2, ab_min_nI (by omega) (by omega)]
    by_cases hu : u = -1
    · left
      subst hu
      by_cases hlt : S - k < (net e1 e2 sd l).length
      · have hgd : (net e1 e2 sd l).getD (S - k) 0 < N := by
          rw [List.getD_eq_getElem?_getD, List.getElem?_eq_getElem hlt]
          exact ((kq_mem hq _).mp (List.getElem_mem hlt)).1
        have q3 := (hq.1.1.2.2.2.2.2.2.2 _ hgd).2.2.1
        have w3 := (hm.1.2.2.2.2.2 _ hgd).2.2.1
        refine ⟨I, kfr_refl, nI (pr ((net e1 e2 sd l).getD (S - k) 0)), ?_, fun L n nc ns => ?_⟩
        · have hf2 := f2 (S - k) hlt
          have hne : ¬ nI (min (net e1 e2 sd l).length (S - k)) = nI (net e1 e2 sd l).length := fun h => by
            have := (nI_eq (by omega) (by omega)).mp h
            omega
          refine ab_C_of (by decide) rfl (Nat.le_of_ble_eq_true rfl) hT ?_
          refine r_K_group_0 hT _ _ (by omega) (Nat.le_refl _) (Nat.le_refl _) ?_
          refine bb_f g1 (bb_t (by rw [p1]; exact g2) (bb_t' rfl ?_))
          rw [emin, f1]
          refine bb_f' hne ?_
          rw [nI_clamp (by omega), Nat.min_eq_right (by omega), hf2, nI_clamp (by omega), q3]
          exact ⟨vp_in_nI (by omega) (by omega), vp_in_nI (by omega) (by omega), rfl⟩
        · obtain ⟨K, r, t1, t2, t3, t4⟩ := z_leftFor (d := d + 11) (w := w) (n := n) (nc := nc) (ns := ns) (L := L) hT hm0 hk1 hk2
          rw [if_pos hlt] at t3
          have w3' : K mx_now (51 + (net e1 e2 sd l).getD (S - k) 0) = nI (pr ((net e1 e2 sd l).getD (S - k) 0)) := by
            rw [mfr_now t1, ab_up_o (by decide)]; exact w3
          refine ⟨K, (mfr_ok t1).1, (mfr_ok t1).2, ?_⟩
          refine ab_C_of (by decide) rfl (Nat.le_of_ble_eq_true rfl) hT ?_
          refine r_M_group_0 hT _ _ (Nat.le_refl _) (Nat.le_refl _) ?_
          refine bb_f g1 (bb_f (by rw [z1]; exact g3) (bb_t rfl ⟨r, K, t4, bb_t' rfl (bb_f' (by rw [t3]; exact nI_m1 (by omega)) ?_)⟩))
          rw [t3, nl_add2, nI_clamp (by omega), w3']
          exact ⟨vp_in_nI (by omega) (by omega), rfl⟩
      · refine ⟨I, kfr_refl, 0, ?_, fun L n nc ns => ?_⟩
        · refine ab_C_of (by decide) rfl (Nat.le_of_ble_eq_true rfl) hT ?_
          refine r_K_group_0 hT _ _ (by omega) (Nat.le_refl _) (Nat.le_refl _) ?_
          refine bb_f g1 (bb_t (by rw [p1]; exact g2) (bb_t' rfl ?_))
          rw [emin, f1]
          refine bb_t' (by rw [Nat.min_eq_left (by omega)]) rfl
        · obtain ⟨K, r, t1, t2, t3, t4⟩ := z_leftFor (d := d + 11) (w := w) (n := n) (nc := nc) (ns := ns) (L := L) hT hm0 hk1 hk2
          rw [if_neg hlt] at t3
          refine ⟨K, (mfr_ok t1).1, (mfr_ok t1).2, ?_⟩
          refine ab_C_of (by decide) rfl (Nat.le_of_ble_eq_true rfl) hT ?_
          refine r_M_group_0 hT _ _ (Nat.le_refl _) (Nat.le_refl _) ?_
          exact bb_f g1 (bb_f (by rw [z1]; exact g3) (bb_t rfl ⟨r, K, t4, bb_t' rfl (bb_t' t3 rfl)⟩))
    · rcases k_needSite (d := d + 7) (w := w) (n := n) (nc := nc) (ns := ns) (L := L) hT p1 p3 u with ⟨s, hs, e, need⟩ | ⟨hbad, need⟩
      · subst e
        left
        obtain ⟨a1, a2, a3, a4⟩ := v_rg1 hs (by omega)
        obtain ⟨r5, b1, b2⟩ := k_cheapest (d := d + 15) (w := w) (n := n) (nc := nc) (ns := ns) (L := L) hT hq (m := min (net e1 e2 sd l).length (S - k)) (Nat.min_le_left _ _)
        have etk : (net e1 e2 sd l).take (min (net e1 e2 sd l).length (S - k)) = (net e1 e2 sd l).take (S - k) := by
          by_cases h : S - k ≤ (net e1 e2 sd l).length
          · rw [Nat.min_eq_right h]
          · rw [Nat.min_eq_left (by omega), List.take_length, List.take_of_length_le (by omega)]
        rw [etk] at b1
        obtain ⟨J, c1, c2⟩ := g0_ok (d := d + 13) (w := w) (n := n) (nc := nc) (ns := ns) (L := L) hT hq.1.1 (am := fun j => decide (j ∈ (net e1 e2 sd l).take (S - k))) (v := r5) (fun j hj => b1 j (by omega))
        have ck := gr_kfr c1
        have hpc : J kx_trialNet_piece s = nI ((kr e1 e2 (l.filter (fun j => decide (j ∈ (net e1 e2 sd l).take (S - k))))).2 s) := c1.2.2.2.2.2.2 s (by omega)
        have z1' : J mx 2 = nI S := by rw [ck _ (by unfold kscr; decide)]; exact z1
        refine ⟨J, ck, J kx_trialNet_piece s, ?_, fun L n nc ns => ?_⟩
        · refine ab_C_of (by decide) rfl (Nat.le_of_ble_eq_true rfl) hT ?_
          refine r_K_group_0 hT _ _ (by omega) (Nat.le_refl _) (Nat.le_refl _) ?_
          refine bb_f g1 (bb_t (by rw [p1]; exact g2) (bb_f' hu (Or.inl ⟨need, r5, ?_⟩)))
          rw [emin, nI_clamp (by omega)]
          exact ⟨b2, J, c2, vp_in_nI (by omega) (by omega), rfl⟩
        · have hm1 : mC (ab_up J mx 1 0) S N sd e1 e2 pr fm l := mC_gr mgr_c (mC_kfr ck hm)
          obtain ⟨K0, r, t1, t2, t3, t4⟩ := z_leftFor (d := d + 11) (w := w) (n := n) (nc := nc) (ns := ns) (L := L) hT hm1 hk1 hk2
          obtain ⟨K, r', k1, k2, k3⟩ := z_netOf (d := d + 13) (w := w) (n := n) (nc := nc) (ns := ns) (L := L) hT (mC_fr t1 hm1).1 (am := fun j => decide (j ∈ (net e1 e2 sd l).take (S - k))) t2 (fun j hj => ((kq_mem hq j).mp (List.mem_of_mem_take (of_decide_eq_true hj))).1)
          have f := mfr_trans (mfr_nm k1) t1
          rw [hpc, ← k1.2.2.2.2.2 s hs]
          refine ⟨K, (mfr_ok f).1, (mfr_ok f).2, ?_⟩
          refine ab_C_of (by decide) rfl (Nat.le_of_ble_eq_true rfl) hT ?_
          refine r_M_group_0 hT _ _ (Nat.le_refl _) (Nat.le_refl _) ?_
          refine bb_f g1 (bb_f (by rw [z1']; exact g3) (bb_f hu (bb_f a1 (bb_f (by rw [z1']; exact a3) ⟨r, K0, t4, bb_f' hu ⟨r', K, k3, vp_in_nI (by omega) (by omega), ?_⟩⟩))))
          rw [nI_clamp (by omega)]
      · right; right
        refine ⟨kfr_refl, ?_, fun L n nc ns => ⟨0, _, mgr_x.1, mgr_x.2, ?_⟩⟩
        · refine ab_C_of (by decide) rfl (Nat.le_of_ble_eq_true rfl) hT ?_
          refine r_K_group_0 hT _ _ (by omega) (Nat.le_add_right _ _) (Nat.le_add_right _ _) ?_
          exact bb_f g1 (bb_t (by rw [p1]; exact g2) (bb_f' hu (Or.inr ⟨_, need, rfl⟩)))
        · refine ab_C_of (by decide) rfl (Nat.le_of_ble_eq_true rfl) hT ?_
          refine r_M_group_0 hT _ _ (Nat.le_refl _) (Nat.le_refl _) ?_
          refine bb_f g1 (bb_f (by rw [z1]; exact g3) (bb_f hu ?_))
          rcases hbad with h | ⟨h1, h2⟩
          · exact bb_t h rfl
          · exact bb_f h1 (bb_t (by rw [z1]; exact h2) rfl)
  · right; left
    refine ⟨kfr_refl, ?_, fun L n nc ns => ⟨0, _, mgr_x.1, mgr_x.2, ?_⟩⟩
    · refine ab_C_of (by decide) rfl (Nat.le_of_ble_eq_true rfl) hT ?_
      refine r_K_group_0 hT _ _ (by omega) (Nat.le_add_right _ _) (Nat.le_add_right _ _) ?_
      rcases hbad with h | ⟨h1, h2, h3⟩
      · exact bb_t h rfl
      · exact bb_f h1 (bb_f (by rw [p1]; exact h2) rfl)
    · refine ab_C_of (by decide) rfl (Nat.le_of_ble_eq_true rfl) hT ?_
      refine r_M_group_0 hT _ _ (Nat.le_refl _) (Nat.le_refl _) ?_
      rcases hbad with h | ⟨h1, h2, h3⟩
      · exact bb_t h rfl
      · exact bb_f h1 (bb_t (by rw [z1]; exact h3) rfl)
end JFI
