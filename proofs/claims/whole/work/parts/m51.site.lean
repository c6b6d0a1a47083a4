/-! THE TWO SIDE BY SIDE: site, way -/
theorem v_cs (u : Int32) (m : Nat) (hm : m + 1 < 2 ^ 31) : (∃ i, i ≤ m ∧ u = nI i ∧ ¬ u < 0 ∧ ¬ nI m < u) ∨ ((u.toInt < 0 ∨ (m : Int) < u.toInt) ∧ (u < 0 ∨ (¬ u < 0 ∧ nI m < u))) := by
  have z : (0 : Int32).toInt = 0 := by decide
  rcases v_cases u m (by omega) with ⟨i, hi, e⟩ | h
  · subst e
    refine Or.inl ⟨i, hi, rfl, nI_pos (by omega), fun h => ?_⟩
    have := (nI_ltI (by omega) (by omega)).mp h
    omega
  · refine Or.inr ⟨h, ?_⟩
    by_cases g : u < 0
    · exact Or.inl g
    · refine Or.inr ⟨g, ?_⟩
      rw [Int32.lt_iff_toInt_lt, z] at g
      rw [Int32.lt_iff_toInt_lt, nI_toInt (by omega)]
      omega
section JSI
variable {w : ab_Wd} {d n nc ns : Nat} {I : Nat → Nat → Int32} {L : Nat → Nat → Int64}
variable {S N : Nat} {sd : Nat → Bool} {e1 e2 pr fm : Nat → Nat} {l : List Nat}
theorem j_site (hT : w.1.stackTraces = false) (hR : RQ I S N sd e1 e2 pr fm l) (v u : Int32) : (∃ J, qOk w (d + 16) mt_K_site mt_M_site [.int v, .int u] I L n nc ns J) ∨ qNo w (d + 16) mt_K_site mt_M_site [.int v, .int u] I L n nc ns I "java/util/NoSuchElementException" 1 := by
  obtain ⟨hq, hm, -⟩ := hR
  have hm0 : mC (ab_up I mx 1 0) S N sd e1 e2 pr fm l := mC_gr mgr_c hm
  have p1 := hq.1.1.1
  have p3 := hq.1.1.2.2.1
  have p4 := hq.1.1.2.2.2.1
  have z1 : I mx 2 = nI S := hm.1.1
  rcases k_needSite (d := d + 7) (w := w) (n := n) (nc := nc) (ns := ns) (L := L) hT p1 p3 v with ⟨s, hs, e, need⟩ | ⟨hbad, need⟩
  · subst e
    obtain ⟨a1, a2, a3, a4⟩ := v_rg1 hs (by omega)
    rcases v_cs u 3 (by decide) with ⟨i, hi, e, g1, g2⟩ | ⟨hout, hout2⟩
    · subst e
      left
      have ends := k_endsAt (d := d + 14) (w := w) (n := n) (nc := nc) (ns := ns) (L := L) hT hq hs
      have model : ∀ (L : Nat → Nat → Int64) (n nc ns : Nat), ∃ (I9 : Nat → Nat → Int32) (r8 : Int32), nm_st I9 (ab_up I mx 1 0) S pr (kr e1 e2 (l.filter sd)) ∧ ab_PU w (d + 15) mt_M_netNow [.ref mx] (ab_up I mx 1 0) L n nc ns r8 I9 ∧ ab_P w (d + 15) mt_M_endsAt [.ref mx, .int r8, .int (nI s)] I9 L n nc ns (nI (dgr e1 e2 N (fun k => decide (k ∈ net e1 e2 sd l)) s)) := fun L n nc ns => by
        obtain ⟨I9, r8, n1, n2, n3⟩ := z_netNow (d := d + 12) (w := w) (n := n) (nc := nc) (ns := ns) (L := L) hT hm0
        exact ⟨I9, r8, n1, n3, z_endsAt (d := d + 14) (w := w) (n := n) (nc := nc) (ns := ns) (L := L) hT (mC_fr (mfr_nm n1) hm0).1 n2 hs⟩
      generalize dgr e1 e2 N (fun k => decide (k ∈ net e1 e2 sd l)) s = dg at *
      have hi : i = 0 ∨ i = 1 ∨ i = 2 ∨ i = 3 := by omega
      rcases hi with e | e | e | e <;> subst e
      · refine ⟨I, kfr_refl, nI dg, ?_, fun L n nc ns => ?_⟩
        · refine ab_C_of (by decide) rfl (Nat.le_of_ble_eq_true rfl) hT ?_
          refine r_K_site_0 hT _ _ (by omega) (Nat.le_refl _) (Nat.le_refl _) ?_
          refine Or.inl ⟨need, ?_⟩
          (and_intros <;> intro h <;> first | exact absurd h (by decide) | exact ⟨_, ends, rfl⟩)
        · obtain ⟨I9, r8, n1, n3, n4⟩ := model L n nc ns
          refine ⟨I9, (mfr_ok (mfr_nm n1)).1, (mfr_ok (mfr_nm n1)).2, ?_⟩
          refine ab_C_of (by decide) rfl (Nat.le_of_ble_eq_true rfl) hT ?_
          refine r_M_site_0 hT _ _ (Nat.le_refl _) (Nat.le_refl _) ?_
          refine bb_f a1 (bb_f (by rw [z1]; exact a3) (bb_f g1 (bb_f g2 ?_)))
          exact bb_f' (by decide) ⟨r8, I9, n3, _, n4, bb_t' rfl rfl⟩
      · refine ⟨I, kfr_refl, if nI dg = 1 then 1 else 0, ?_, fun L n nc ns => ?_⟩
        · refine ab_C_of (by decide) rfl (Nat.le_of_ble_eq_true rfl) hT ?_
          refine r_K_site_0 hT _ _ (by omega) (Nat.le_refl _) (Nat.le_refl _) ?_
          refine Or.inl ⟨need, ?_⟩
          (and_intros <;> intro h <;> first | exact absurd h (by decide) | exact ⟨_, ends, fun g => by rw [if_neg g], fun g => by rw [if_pos g]⟩)
        · obtain ⟨I9, r8, n1, n3, n4⟩ := model L n nc ns
          refine ⟨I9, (mfr_ok (mfr_nm n1)).1, (mfr_ok (mfr_nm n1)).2, ?_⟩
          refine ab_C_of (by decide) rfl (Nat.le_of_ble_eq_true rfl) hT ?_
          refine r_M_site_0 hT _ _ (Nat.le_refl _) (Nat.le_refl _) ?_
          refine bb_f a1 (bb_f (by rw [z1]; exact a3) (bb_f g1 (bb_f g2 ?_)))
          exact bb_f' (by decide) ⟨r8, I9, n3, _, n4, bb_f' (by decide) (bb_t' rfl ⟨fun g => by rw [if_neg g], fun g => by rw [if_pos g]⟩)⟩
      · refine ⟨I, kfr_refl, I kx_forest_piece s, ?_, fun L n nc ns => ?_⟩
        · refine ab_C_of (by decide) rfl (Nat.le_of_ble_eq_true rfl) hT ?_
          refine r_K_site_0 hT _ _ (by omega) (Nat.le_refl _) (Nat.le_refl _) ?_
          refine Or.inl ⟨need, ?_⟩
          rw [nI_clamp (by omega)]
          (and_intros <;> intro h <;> first | exact absurd h (by decide) | exact ⟨vp_in_nI (by omega) (by omega), rfl⟩)
        · obtain ⟨I9, r8, n1, n3, n4⟩ := model L n nc ns
          refine ⟨I9, (mfr_ok (mfr_nm n1)).1, (mfr_ok (mfr_nm n1)).2, ?_⟩
          have e : I kx_forest_piece s = I9 mx_piece s := by rw [n1.2.2.2.2.2 s hs]; exact hq.2.2.2.2.2.2.1 s (by omega)
          rw [e]
          refine ab_C_of (by decide) rfl (Nat.le_of_ble_eq_true rfl) hT ?_
          refine r_M_site_0 hT _ _ (Nat.le_refl _) (Nat.le_refl _) ?_
          refine bb_f a1 (bb_f (by rw [z1]; exact a3) (bb_f g1 (bb_f g2 ?_)))
          refine bb_f' (by decide) ⟨r8, I9, n3, _, n4, bb_f' (by decide) (bb_f' (by decide) ⟨vp_in_nI (by omega) (by omega), ?_⟩)⟩
          rw [nI_clamp (by omega)]
      · obtain ⟨J, r, b1, b2, b3⟩ := k_aloneOf (d := d + 12) (w := w) (n := n) (nc := nc) (ns := ns) (L := L) hT hq hs
        refine ⟨J, b1, r, ?_, fun L n nc ns => ?_⟩
        · refine ab_C_of (by decide) rfl (Nat.le_of_ble_eq_true rfl) hT ?_
          refine r_K_site_0 hT _ _ (by omega) (Nat.le_refl _) (Nat.le_refl _) ?_
          refine Or.inl ⟨need, ?_⟩
          (and_intros <;> intro h <;> first | exact absurd h (by decide) | exact ⟨_, J, b3, rfl⟩)
        · obtain ⟨K, r', c1, c2, c3⟩ := z_aloneOf (d := d + 10) (w := w) (n := n) (nc := nc) (ns := ns) (L := L) hT (mC_gr (mgr_c (x := 0)) (mC_kfr b1 hm)) hs
          have er : r = r' := al_uq (N := N) (S := S) b2 c2
          rw [er]
          refine ⟨K, (mfr_ok c1).1, (mfr_ok c1).2, ?_⟩
          have z1 : J mx 2 = nI S := by rw [b1 _ (by unfold kscr; decide)]; exact z1
          refine ab_C_of (by decide) rfl (Nat.le_of_ble_eq_true rfl) hT ?_
          refine r_M_site_0 hT _ _ (Nat.le_refl _) (Nat.le_refl _) ?_
          refine bb_f a1 (bb_f (by rw [z1]; exact a3) (bb_f g1 (bb_f g2 ?_)))
          exact bb_t' rfl ⟨_, K, c3, rfl⟩
    · right
      have hne : ∀ i, i ≤ 3 → u ≠ nI i := fun i hi e => by
        subst e; rw [nI_toInt (by omega)] at hout; omega
      refine ⟨kfr_refl, ?_, fun L n nc ns => ⟨0, _, mgr_x.1, mgr_x.2, ?_⟩⟩
      · refine ab_C_of (by decide) rfl (Nat.le_of_ble_eq_true rfl) hT ?_
        refine r_K_site_0 hT _ _ (by omega) (Nat.le_add_right _ _) (Nat.le_add_right _ _) ?_
        refine Or.inl ⟨need, ?_⟩
        (and_intros <;> intro h <;> first | exact absurd h (hne _ (by decide)) | rfl)
      · refine ab_C_of (by decide) rfl (Nat.le_of_ble_eq_true rfl) hT ?_
        refine r_M_site_0 hT _ _ (Nat.le_refl _) (Nat.le_refl _) ?_
        refine bb_f a1 (bb_f (by rw [z1]; exact a3) ?_)
        rcases hout2 with h | ⟨h1, h2⟩
        · exact bb_t h rfl
        · exact bb_f h1 (bb_t h2 rfl)
  · right
    refine ⟨kfr_refl, ?_, fun L n nc ns => ⟨0, _, mgr_x.1, mgr_x.2, ?_⟩⟩
    · refine ab_C_of (by decide) rfl (Nat.le_of_ble_eq_true rfl) hT ?_
      refine r_K_site_0 hT _ _ (by omega) (Nat.le_add_right _ _) (Nat.le_add_right _ _) ?_
      exact Or.inr ⟨_, need, rfl⟩
    · refine ab_C_of (by decide) rfl (Nat.le_of_ble_eq_true rfl) hT ?_
      refine r_M_site_0 hT _ _ (Nat.le_refl _) (Nat.le_refl _) ?_
      rcases hbad with h | ⟨h1, h2⟩
      · exact bb_t h rfl
      · exact bb_f h1 (bb_t (by rw [z1]; exact h2) rfl)
theorem j_way (hT : w.1.stackTraces = false) (hR : RQ I S N sd e1 e2 pr fm l) (v1 v2 u : Int32) : (∃ J, qOk w (d + 16) mt_K_way mt_M_way [.int v1, .int v2, .int u] I L n nc ns J) ∨ qNo w (d + 16) mt_K_way mt_M_way [.int v1, .int v2, .int u] I L n nc ns I "java/util/NoSuchElementException" 1 := by
  obtain ⟨hq, hm, -⟩ := hR
  have hm0 : mC (ab_up I mx 1 0) S N sd e1 e2 pr fm l := mC_gr mgr_c hm
  have p1 := hq.1.1.1
  have p3 := hq.1.1.2.2.1
  have p4 := hq.1.1.2.2.2.1
  have z1 : I mx 2 = nI S := hm.1.1
  rcases k_needSite (d := d + 7) (w := w) (n := n) (nc := nc) (ns := ns) (L := L) hT p1 p3 v1 with ⟨a, ha, e, need⟩ | ⟨hbad, need⟩
  · subst e
    obtain ⟨a1, a2, a3, a4⟩ := v_rg1 ha (by omega)
    rcases k_needSite (d := d + 7) (w := w) (n := n) (nc := nc) (ns := ns) (L := L) hT p1 p3 v2 with ⟨b, hb, e, need2⟩ | ⟨hbad, need2⟩
    · subst e
      obtain ⟨b1, b2, b3, b4⟩ := v_rg1 hb (by omega)
      rcases v_cs u 4 (by decide) with ⟨i, hi, e, g1, g2⟩ | ⟨hout, hout2⟩
      · subst e
        left
        obtain ⟨y1, y2, y3, y4⟩ := kq_w hq a b ha hb
        have model : ∀ (L : Nat → Nat → Int64) (n nc ns : Nat), ∃ (I9 : Nat → Nat → Int32) (r8 : Int32) (K : Nat → Nat → Int32) (r : Int32), mfr K (ab_up I mx 1 0) ∧ mC K S N sd e1 e2 pr fm l ∧ ((∃ p, pth e1 e2 (net e1 e2 sd l).reverse a b = some p ∧ r = nI p.length ∧ wy K N p) ∨ (pth e1 e2 (net e1 e2 sd l).reverse a b = none ∧ r = -1 ∧ wy K N [])) ∧ ab_PU w (d + 15) mt_M_netNow [.ref mx] (ab_up I mx 1 0) L n nc ns r8 I9 ∧ ab_PU w (d + 15) mt_M_tellWay [.ref mx, .int r8, .int (nI a), .int (nI b)] I9 L n nc ns r K := fun L n nc ns => by
          obtain ⟨I9, r8, n1, n2, n3⟩ := z_netNow (d := d + 12) (w := w) (n := n) (nc := nc) (ns := ns) (L := L) hT hm0
          obtain ⟨K, r, t1, -, t2, t3⟩ := z_wayN (d := d + 14) (w := w) (n := n) (nc := nc) (ns := ns) (L := L) hT (mC_fr (mfr_nm n1) hm0) n2 ha hb
          exact ⟨I9, r8, K, r, mfr_trans t1 (mfr_nm n1), mC_fr t1 (mC_fr (mfr_nm n1) hm0), t2, n3, t3⟩
        have hi : i = 0 ∨ i = 1 ∨ i = 2 ∨ i = 3 ∨ i = 4 := by omega
        rcases hi with e | e | e | e | e <;> subst e
        · -- the dearest
          cases hp : pth e1 e2 (net e1 e2 sd l).reverse a b with
          | none =>
            have hab : ¬ nI a = nI b := fun h => by
              have e : a = b := (nI_eq (by omega) (by omega)).mp h
              rw [e, pth_self (kq_fo hq)] at hp; cases hp
            rw [hp] at y4
            have y4 : I kx_ways_dearest (a * 10 + b) = -1 := y4
            refine ⟨I, kfr_refl, -1, ?_, fun L n nc ns => ?_⟩
            · refine ab_C_of (by decide) rfl (Nat.le_of_ble_eq_true rfl) hT ?_
              refine r_K_way_0 hT _ _ _ (by omega) (Nat.le_refl _) (Nat.le_refl _) ?_
              refine Or.inl ⟨need, Or.inl ⟨need2, ?_⟩⟩
              rw [nl_mul1, nI_add, nI_clamp (by omega), y4]
              (and_intros <;> intro h <;> first | exact absurd h (by decide) | exact bb_f hab ⟨vp_in_nI (by omega) (by omega), bb_t rfl rfl⟩)
            · obtain ⟨I9, r8, K, r, m1, m0, m2, m3, m4⟩ := model L n nc ns
              rcases m2 with ⟨p', h1, -⟩ | ⟨-, h1, -⟩
              · rw [hp] at h1; cases h1
              · subst h1
                refine ⟨K, (mfr_ok m1).1, (mfr_ok m1).2, ?_⟩
                refine ab_C_of (by decide) rfl (Nat.le_of_ble_eq_true rfl) hT ?_
                refine r_M_way_0 hT _ _ _ (Nat.le_refl _) (Nat.le_refl _) ?_
                refine bb_f a1 (bb_f (by rw [z1]; exact a3) (bb_f b1 (bb_f (by rw [z1]; exact b3) (bb_f g1 (bb_f g2 ?_)))))
                exact bb_t (by decide) ⟨r8, I9, m3, _, K, m4, bb_t' rfl rfl⟩
          | some p =>
            have hpp := pth_pt hp
            cases p with
            | nil =>
              have hab : nI a = nI b := by rw [pt_nil hpp]
              refine ⟨I, kfr_refl, 0, ?_, fun L n nc ns => ?_⟩
              · refine ab_C_of (by decide) rfl (Nat.le_of_ble_eq_true rfl) hT ?_
                refine r_K_way_0 hT _ _ _ (by omega) (Nat.le_refl _) (Nat.le_refl _) ?_
                refine Or.inl ⟨need, Or.inl ⟨need2, ?_⟩⟩
                (and_intros <;> intro h <;> first | exact absurd h (by decide) | exact bb_t hab rfl)
              · obtain ⟨I9, r8, K, r, m1, m0, m2, m3, m4⟩ := model L n nc ns
                rcases m2 with ⟨p', h1, h2, h3⟩ | ⟨h1, -⟩
                · rw [hp] at h1
                  have h1 := Option.some.inj h1
                  subst h1
                  subst h2
                  refine ⟨K, (mfr_ok m1).1, (mfr_ok m1).2, ?_⟩
                  refine ab_C_of (by decide) rfl (Nat.le_of_ble_eq_true rfl) hT ?_
                  refine r_M_way_0 hT _ _ _ (Nat.le_refl _) (Nat.le_refl _) ?_
                  refine bb_f a1 (bb_f (by rw [z1]; exact a3) (bb_f b1 (bb_f (by rw [z1]; exact b3) (bb_f g1 (bb_f g2 ?_)))))
                  exact bb_t (by decide) ⟨r8, I9, m3, _, K, m4, bb_f' (by decide) (bb_f' (by decide) (bb_f' (by decide) (bb_t' rfl rfl)))⟩
                · rw [hp] at h1; cases h1
            | cons c p =>
              obtain ⟨c', hc'⟩ := dst_ex (pr := pr) (p := c :: p) (fun h => by cases h)
              have hcT : c' ∈ net e1 e2 sd l := List.mem_reverse.mp (pt_mem hpp c' hc'.1).1
              have hcN := ((kq_mem hq c').mp hcT).1
              have q3 := (hq.1.1.2.2.2.2.2.2.2 c' hcN).2.2.1
              have hab : ¬ nI a = nI b := fun h => by
                have e : a = b := (nI_eq (by omega) (by omega)).mp h
                rw [e, pth_self (kq_fo hq)] at hp; cases hp
              rw [hp] at y4
              have y4 : I kx_ways_dearest (a * 10 + b) = nI (dmx pr (c :: p)) := y4
              rw [dmx_eq hc'] at y4
              refine ⟨I, kfr_refl, nI (pr c'), ?_, fun L n nc ns => ?_⟩
              · refine ab_C_of (by decide) rfl (Nat.le_of_ble_eq_true rfl) hT ?_
                refine r_K_way_0 hT _ _ _ (by omega) (Nat.le_refl _) (Nat.le_refl _) ?_
                refine Or.inl ⟨need, Or.inl ⟨need2, ?_⟩⟩
                rw [nl_mul1, nI_add, nI_clamp (by omega), y4, nI_clamp (by omega), q3]
                (and_intros <;> intro h <;> first | exact absurd h (by decide) | exact bb_f hab ⟨vp_in_nI (by omega) (by omega), bb_f (nI_m1 (by omega)) ⟨vp_in_nI (by omega) (by omega), rfl⟩⟩)
              · obtain ⟨I9, r8, K, r, m1, m0, m2, m3, m4⟩ := model L n nc ns
                rcases m2 with ⟨p', h1, h2, h3⟩ | ⟨h1, -⟩
                · rw [hp] at h1
                  have h1 := Option.some.inj h1
                  subst h1
                  subst h2
                  have hpl := h3.2.1
                  have w3 : K mx_now (51 + c') = nI (pr c') := (m0.1.2.2.2.2.2 c' hcN).2.2.1
                  obtain ⟨rd, d1, d2⟩ := z_dearest (d := d + 13) (w := w) (n := n) (nc := nc) (ns := ns) (L := L) hT m0.1 h3
                  have er : rd = nI c' := by
                    rcases d1 with ⟨h1, h2⟩ | ⟨c2, h1, h2⟩
                    · cases h1
                    · rw [h2, dst_uq h1 hc']
                  subst er
                  refine ⟨K, (mfr_ok m1).1, (mfr_ok m1).2, ?_⟩
                  refine ab_C_of (by decide) rfl (Nat.le_of_ble_eq_true rfl) hT ?_
                  refine r_M_way_0 hT _ _ _ (Nat.le_refl _) (Nat.le_refl _) ?_
                  refine bb_f a1 (bb_f (by rw [z1]; exact a3) (bb_f b1 (bb_f (by rw [z1]; exact b3) (bb_f g1 (bb_f g2 ?_)))))
                  refine bb_t (by decide) ⟨r8, I9, m3, _, K, m4, bb_f' (nI_m1 (by omega)) (bb_f' (by decide) (bb_f' (by decide) (bb_f' (fun h => ?_) ⟨_, d2, ?_⟩)))⟩
                  · have := (nI_eq (b := 0) (by omega) (by omega)).mp h
                    rw [List.length_cons] at this; omega
                  · rw [nl_add2, nI_clamp (by omega), w3]
                    exact ⟨vp_in_nI (by omega) (by omega), rfl⟩
                · rw [hp] at h1; cases h1
        · refine ⟨I, kfr_refl, wS pr (pth e1 e2 (net e1 e2 sd l).reverse a b), ?_, fun L n nc ns => ?_⟩
          · refine ab_C_of (by decide) rfl (Nat.le_of_ble_eq_true rfl) hT ?_
            refine r_K_way_0 hT _ _ _ (by omega) (Nat.le_refl _) (Nat.le_refl _) ?_
            refine Or.inl ⟨need, Or.inl ⟨need2, ?_⟩⟩
            rw [nl_mul1, nI_add, nI_clamp (by omega), y1]
            (and_intros <;> intro h <;> first | exact absurd h (by decide) | exact ⟨vp_in_nI (by omega) (by omega), rfl⟩)
          · obtain ⟨I9, r8, K, r, m1, m0, m2, m3, m4⟩ := model L n nc ns
            refine ⟨K, (mfr_ok m1).1, (mfr_ok m1).2, ?_⟩
            rcases m2 with ⟨p', h1, h2, h3⟩ | ⟨h0, h1, h3⟩
            · have pp := z_prices (d := d + 14) (w := w) (n := n) (nc := nc) (ns := ns) (L := L) hT m0.1 h3
              have hpl := h3.2.1
              rw [h1]
              subst h2
              refine ab_C_of (by decide) rfl (Nat.le_of_ble_eq_true rfl) hT ?_
              refine r_M_way_0 hT _ _ _ (Nat.le_refl _) (Nat.le_refl _) ?_
              refine bb_f a1 (bb_f (by rw [z1]; exact a3) (bb_f b1 (bb_f (by rw [z1]; exact b3) (bb_f g1 (bb_f g2 ?_)))))
              exact bb_t (by decide) ⟨r8, I9, m3, _, K, m4, bb_f' (nI_m1 (by omega)) (bb_f' (by decide) (bb_t' rfl ⟨_, pp, rfl⟩))⟩
            · subst h1
              rw [h0]
              refine ab_C_of (by decide) rfl (Nat.le_of_ble_eq_true rfl) hT ?_
              refine r_M_way_0 hT _ _ _ (Nat.le_refl _) (Nat.le_refl _) ?_
              refine bb_f a1 (bb_f (by rw [z1]; exact a3) (bb_f b1 (bb_f (by rw [z1]; exact b3) (bb_f g1 (bb_f g2 ?_)))))
              exact bb_t (by decide) ⟨r8, I9, m3, _, K, m4, bb_t' rfl rfl⟩
        · refine ⟨I, kfr_refl, wH (pth e1 e2 (net e1 e2 sd l).reverse a b), ?_, fun L n nc ns => ?_⟩
          · refine ab_C_of (by decide) rfl (Nat.le_of_ble_eq_true rfl) hT ?_
            refine r_K_way_0 hT _ _ _ (by omega) (Nat.le_refl _) (Nat.le_refl _) ?_
            refine Or.inl ⟨need, Or.inl ⟨need2, ?_⟩⟩
            rw [nl_mul1, nI_add, nI_clamp (by omega), y2]
            (and_intros <;> intro h <;> first | exact absurd h (by decide) | exact ⟨vp_in_nI (by omega) (by omega), rfl⟩)
          · obtain ⟨I9, r8, K, r, m1, m0, m2, m3, m4⟩ := model L n nc ns
            refine ⟨K, (mfr_ok m1).1, (mfr_ok m1).2, ?_⟩
            rcases m2 with ⟨p', h1, h2, h3⟩ | ⟨h0, h1, h3⟩
            · have hpl := h3.2.1
              rw [h1]
              subst h2
              refine ab_C_of (by decide) rfl (Nat.le_of_ble_eq_true rfl) hT ?_
              refine r_M_way_0 hT _ _ _ (Nat.le_refl _) (Nat.le_refl _) ?_
              refine bb_f a1 (bb_f (by rw [z1]; exact a3) (bb_f b1 (bb_f (by rw [z1]; exact b3) (bb_f g1 (bb_f g2 ?_)))))
              exact bb_t (by decide) ⟨r8, I9, m3, _, K, m4, bb_f' (nI_m1 (by omega)) (bb_t' rfl rfl)⟩
            · subst h1
              rw [h0]
              refine ab_C_of (by decide) rfl (Nat.le_of_ble_eq_true rfl) hT ?_
              refine r_M_way_0 hT _ _ _ (Nat.le_refl _) (Nat.le_refl _) ?_
              refine bb_f a1 (bb_f (by rw [z1]; exact a3) (bb_f b1 (bb_f (by rw [z1]; exact b3) (bb_f g1 (bb_f g2 ?_)))))
              exact bb_t (by decide) ⟨r8, I9, m3, _, K, m4, bb_t' rfl rfl⟩
        · obtain ⟨J, c1, c3⟩ := k_shortest (d := d + 11) (w := w) (n := n) (nc := nc) (ns := ns) (L := L) hT hq.1 ha hb
          have c1 := kx_kfr c1
          refine ⟨J, c1, shI (dsN e1 e2 pr (sdE N sd) a b), ?_, fun L n nc ns => ?_⟩
          · refine ab_C_of (by decide) rfl (Nat.le_of_ble_eq_true rfl) hT ?_
            refine r_K_way_0 hT _ _ _ (by omega) (Nat.le_refl _) (Nat.le_refl _) ?_
            refine Or.inl ⟨need, Or.inl ⟨need2, ?_⟩⟩
            (and_intros <;> intro h <;> first | exact absurd h (by decide) | exact ⟨_, J, c3, rfl⟩)
          · obtain ⟨K, t1, t3⟩ := z_shortOf (d := d + 13) (w := w) (n := n) (nc := nc) (ns := ns) (L := L) hT (mC_gr (mgr_c (x := 0)) (mC_kfr c1 hm)) ha hb
            have z1 : J mx 2 = nI S := by rw [c1 _ (by unfold kscr; decide)]; exact z1
            refine ⟨K, (mfr_ok t1).1, (mfr_ok t1).2, ?_⟩
            refine ab_C_of (by decide) rfl (Nat.le_of_ble_eq_true rfl) hT ?_
            refine r_M_way_0 hT _ _ _ (Nat.le_refl _) (Nat.le_refl _) ?_
            refine bb_f a1 (bb_f (by rw [z1]; exact a3) (bb_f b1 (bb_f (by rw [z1]; exact b3) (bb_f g1 (bb_f g2 ?_)))))
            exact bb_f (by decide) (bb_t' rfl ⟨_, K, t3, rfl⟩)
        · by_cases hab : a = b
          · subst hab
            have c3 := k_apart0 (d := d + 12) (I := I) (w := w) (n := n) (nc := nc) (ns := ns) (L := L) hT (v := nI a)
            refine ⟨I, kfr_refl, 0, ?_, fun L n nc ns => ?_⟩
            · refine ab_C_of (by decide) rfl (Nat.le_of_ble_eq_true rfl) hT ?_
              refine r_K_way_0 hT _ _ _ (by omega) (Nat.le_refl _) (Nat.le_refl _) ?_
              refine Or.inl ⟨need, Or.inl ⟨need2, ?_⟩⟩
              (and_intros <;> intro h <;> first | exact absurd h (by decide) | exact ⟨_, I, c3, rfl⟩)
            · obtain ⟨K, t1, t3⟩ := z_apartOf0 (d := d + 4) (I := ab_up I mx 1 0) (w := w) (n := n) (nc := nc) (ns := ns) (L := L) hT (v := nI a)
              refine ⟨K, (mfr_ok t1).1, (mfr_ok t1).2, ?_⟩
              refine ab_C_of (by decide) rfl (Nat.le_of_ble_eq_true rfl) hT ?_
              refine r_M_way_0 hT _ _ _ (Nat.le_refl _) (Nat.le_refl _) ?_
              refine bb_f a1 (bb_f (by rw [z1]; exact a3) (bb_f b1 (bb_f (by rw [z1]; exact b3) (bb_f g1 (bb_f g2 ?_)))))
              exact bb_f (by decide) (bb_f' (by decide) ⟨_, K, t3, rfl⟩)
          · obtain ⟨J, m, g, c1, c2, c4, c3⟩ := k_apart (d := d + 12) (w := w) (n := n) (nc := nc) (ns := ns) (L := L) hT hq.1 ha hb hab
            have c1 : kfr J I := fun c hc => c1 c (fun e => hc (by rw [e]; unfold kscr; decide)) (fun e => hc (by rw [e]; unfold kscr; decide))
            refine ⟨J, c1, nI m, ?_, fun L n nc ns => ?_⟩
            · refine ab_C_of (by decide) rfl (Nat.le_of_ble_eq_true rfl) hT ?_
              refine r_K_way_0 hT _ _ _ (by omega) (Nat.le_refl _) (Nat.le_refl _) ?_
              refine Or.inl ⟨need, Or.inl ⟨need2, ?_⟩⟩
              (and_intros <;> intro h <;> first | exact absurd h (by decide) | exact ⟨_, J, c3, rfl⟩)
            · obtain ⟨K, m', g', t1, t2, t4, t3⟩ := z_apartOf (d := d + 4) (w := w) (n := n) (nc := nc) (ns := ns) (L := L) hT (mC_gr (mgr_c (x := 0)) (mC_kfr c1 hm)) ha hb hab
              rw [ap_same p4 hab c2 c4 t2 t4]
              have z1 : J mx 2 = nI S := by rw [c1 _ (by unfold kscr; decide)]; exact z1
              refine ⟨K, (mfr_ok t1).1, (mfr_ok t1).2, ?_⟩
              refine ab_C_of (by decide) rfl (Nat.le_of_ble_eq_true rfl) hT ?_
              refine r_M_way_0 hT _ _ _ (Nat.le_refl _) (Nat.le_refl _) ?_
              refine bb_f a1 (bb_f (by rw [z1]; exact a3) (bb_f b1 (bb_f (by rw [z1]; exact b3) (bb_f g1 (bb_f g2 ?_)))))
              exact bb_f (by decide) (bb_f' (by decide) ⟨_, K, t3, rfl⟩)
      · right
        have hne : ∀ i, i ≤ 4 → u ≠ nI i := fun i hi e => by
          subst e; rw [nI_toInt (by omega)] at hout; omega
        refine ⟨kfr_refl, ?_, fun L n nc ns => ⟨0, _, mgr_x.1, mgr_x.2, ?_⟩⟩
        · refine ab_C_of (by decide) rfl (Nat.le_of_ble_eq_true rfl) hT ?_
          refine r_K_way_0 hT _ _ _ (by omega) (Nat.le_add_right _ _) (Nat.le_add_right _ _) ?_
          refine Or.inl ⟨need, Or.inl ⟨need2, ?_⟩⟩
          (and_intros <;> intro h <;> first | exact absurd h (hne _ (by decide)) | rfl)
        · refine ab_C_of (by decide) rfl (Nat.le_of_ble_eq_true rfl) hT ?_
          refine r_M_way_0 hT _ _ _ (Nat.le_refl _) (Nat.le_refl _) ?_
          refine bb_f a1 (bb_f (by rw [z1]; exact a3) (bb_f b1 (bb_f (by rw [z1]; exact b3) ?_)))
          rcases hout2 with h | ⟨h1, h2⟩
          · exact bb_t h rfl
          · exact bb_f h1 (bb_t h2 rfl)
    · right
      refine ⟨kfr_refl, ?_, fun L n nc ns => ⟨0, _, mgr_x.1, mgr_x.2, ?_⟩⟩
      · refine ab_C_of (by decide) rfl (Nat.le_of_ble_eq_true rfl) hT ?_
        refine r_K_way_0 hT _ _ _ (by omega) (Nat.le_add_right _ _) (Nat.le_add_right _ _) ?_
        exact Or.inl ⟨need, Or.inr ⟨_, need2, rfl⟩⟩
      · refine ab_C_of (by decide) rfl (Nat.le_of_ble_eq_true rfl) hT ?_
        refine r_M_way_0 hT _ _ _ (Nat.le_refl _) (Nat.le_refl _) ?_
        refine bb_f a1 (bb_f (by rw [z1]; exact a3) ?_)
        rcases hbad with h | ⟨h1, h2⟩
        · exact bb_t h rfl
        · exact bb_f h1 (bb_t (by rw [z1]; exact h2) rfl)
  · right
    refine ⟨kfr_refl, ?_, fun L n nc ns => ⟨0, _, mgr_x.1, mgr_x.2, ?_⟩⟩
    · refine ab_C_of (by decide) rfl (Nat.le_of_ble_eq_true rfl) hT ?_
      refine r_K_way_0 hT _ _ _ (by omega) (Nat.le_add_right _ _) (Nat.le_add_right _ _) ?_
      exact Or.inr ⟨_, need, rfl⟩
    · refine ab_C_of (by decide) rfl (Nat.le_of_ble_eq_true rfl) hT ?_
      refine r_M_way_0 hT _ _ _ (Nat.le_refl _) (Nat.le_refl _) ?_
      rcases hbad with h | ⟨h1, h2⟩
      · exact bb_t h rfl
      · exact bb_f h1 (bb_t (by rw [z1]; exact h2) rfl)
end JSI
