/-! THE TWO SIDE BY SIDE: ring, share, site, way -/
section JWA
variable {w : ab_Wd} {d n nc ns : Nat} {I : Nat → Nat → Int32} {L : Nat → Nat → Int64}
variable {S N : Nat} {sd : Nat → Bool} {e1 e2 pr fm : Nat → Nat} {l : List Nat}
theorem k_ring68 (hT : w.1.stackTraces = false) (hq : kQ I S N sd e1 e2 pr fm l) {t j : Nat} {vk : Int32} (ht : t < S) (hj : j < 100) : ∀ m i x c q, i + m = j → x < S → pth e1 e2 (net e1 e2 sd l).reverse x t = some (c :: q) → m < (c :: q).length → ab_E w ((d + 8) + 3) mt_K_ring 68 [.ref kx, .int vk, .int (nI j), .int (nI t), .int (nI x), .int (nI c), .int (nI i)] [] (I, L, ab_RR, n, nc, ns) (.inl (some (.int (nI ((c :: q).getD m 0)))), (I, L, ab_RR, n, nc, ns)) := by
  have hS := hq.1.1.2.2.1
  have p4 := hq.1.1.2.2.2.1
  intro m
  induction m with
  | zero =>
    intro i x c q hi hx hp hlen
    refine r_K_ring_68 hT _ _ _ _ _ _ (by omega) (Nat.le_refl _) (Nat.le_refl _) ?_
    exact bb_t (nI_le (by omega) (by omega)) rfl
  | succ m ih =>
    intro i x c q hi hx hp hlen
    obtain ⟨b, hb, hb2⟩ := pt_head (pth_pt hp)
    have hcT : c ∈ net e1 e2 sd l := List.mem_reverse.mp (pt_mem (pth_pt hp) c List.mem_cons_self).1
    have hcN := ((kq_mem hq c).mp hcT).1
    obtain ⟨q1, q2, q3, q4, q5, q6⟩ := hq.1.1.2.2.2.2.2.2.2 c hcN
    have hne := kq_ne hq.1 c hcN
    have hij : ¬ j ≤ i := by omega
    have hlen := Nat.lt_of_succ_lt_succ hlen
    have hb3 := pth_some (kq_fo hq) hb2
    have hbS : b < S := by
      rcases hb with ⟨h1, h2⟩ | ⟨h1, h2⟩
      · rw [h2]; exact q5
      · rw [h2]; exact q4
    have y3 := (kq_w hq b t hbS ht).2.2.1
    rw [hb3] at y3
    rw [List.getD_cons_succ]
    cases q with
    | nil => exact absurd hlen (Nat.not_lt_zero _)
    | cons c2 q =>
      have y3 : I kx_ways_step (b * 10 + t) = nI c2 := y3
      have nx := ih (i + 1) b c2 q (by omega) hbS hb3 hlen
      refine r_K_ring_68 hT _ _ _ _ _ _ (by omega) (Nat.le_refl _) (Nat.le_refl _) ?_
      refine bb_f (fun h => hij ((nI_leI (by omega) (by omega)).mp h)) (bb_f (nI_m1 (by omega)) ?_)
      rw [nI_clamp (by omega), q1, q2, nI_1, nI_eq (by omega) (by omega), nl_mul1, nI_add, nI_clamp (by omega), nl_mul1, nI_add, nI_clamp (by omega)]
      refine ⟨vp_in_nI (by omega) (by omega), fun e => ⟨vp_in_nI (by omega) (by omega), ?_⟩, fun e => ⟨vp_in_nI (by omega) (by omega), ?_⟩⟩
      · rcases hb with ⟨h1, h2⟩ | ⟨h1, h2⟩
        · rw [← h2, y3]; exact nx
        · exact absurd (e.trans h1) hne
      · rcases hb with ⟨h1, h2⟩ | ⟨h1, h2⟩
        · exact absurd h1.symm e
        · rw [← h2, y3]; exact nx
theorem j_ring (hT : w.1.stackTraces = false) (hR : RQ I S N sd e1 e2 pr fm l) (v u : Int32) : qOk w (d + 16) mt_K_ring mt_M_ring [.int v, .int u] I L n nc ns I ∨ qNo w (d + 16) mt_K_ring mt_M_ring [.int v, .int u] I L n nc ns I "java/util/NoSuchElementException" 1 := by
  obtain ⟨hq, hm, -⟩ := hR
  have hm0 : mC (ab_up I mx 1 0) S N sd e1 e2 pr fm l := mC_gr mgr_c hm
  have p2 := hq.1.1.2.1
  have p3 := hq.1.1.2.2.1
  have p4 := hq.1.1.2.2.2.1
  have z1 : I mx_now 0 = nI N := hm.1.2.1
  rcases k_needCable (d := d + 7) (w := w) (n := n) (nc := nc) (ns := ns) (L := L) hT p2 p4 v with ⟨k, hk, e, need⟩ | ⟨hbad, need⟩
  · subst e
    obtain ⟨a1, a2, a3, a4⟩ := v_rg1 hk (by omega)
    have hsk := hq.1.2.2.2.1 k (by omega)
    have hb := kq_bits hq (k := k) (by omega)
    obtain ⟨q1, q2, q3, q4, q5, q6⟩ := hq.1.1.2.2.2.2.2.2.2 k hk
    obtain ⟨y1, y2, y3, y4⟩ := kq_w hq (e1 k) (e2 k) q4 q5
    -- the ring, of its length
    have hp : ∃ p : List Nat, p.length ≤ 9 ∧ (sd k = true → k ∉ net e1 e2 sd l → pth e1 e2 (net e1 e2 sd l).reverse (e1 k) (e2 k) = some p) ∧ (¬ (sd k = true ∧ k ∉ net e1 e2 sd l) → p = []) := by
      obtain ⟨I9, r8, n1, n2, n3⟩ := z_netNow (d := d + 12) (w := w) (n := n) (nc := nc) (ns := ns) (L := L) hT hm0
      obtain ⟨K, p, t1, t2, t3, t4, t5⟩ := z_tellRing (d := d + 13) (w := w) (n := n) (nc := nc) (ns := ns) (L := L) hT (mC_fr (mfr_nm n1) hm0) n2 hk
      exact ⟨p, t2.2.1, fun h1 h2 => (t3 h1 h2).1, t4⟩
    obtain ⟨p, pl, pp1, pp2⟩ := hp
    have model : ∀ (L : Nat → Nat → Int64) (n nc ns : Nat), ∃ (I9 : Nat → Nat → Int32) (r8 : Int32) (K : Nat → Nat → Int32), mfr K (ab_up I mx 1 0) ∧ wy K N p ∧ ab_PU w (d + 15) mt_M_netNow [.ref mx] (ab_up I mx 1 0) L n nc ns r8 I9 ∧ ab_PU w (d + 15) mt_M_tellRing [.ref mx, .int r8, .int (nI k)] I9 L n nc ns (nI p.length) K := fun L n nc ns => by
      obtain ⟨I9, r8, n1, n2, n3⟩ := z_netNow (d := d + 12) (w := w) (n := n) (nc := nc) (ns := ns) (L := L) hT hm0
      obtain ⟨K, p', t1, t2, t3, t4, t5⟩ := z_tellRing (d := d + 13) (w := w) (n := n) (nc := nc) (ns := ns) (L := L) hT (mC_fr (mfr_nm n1) hm0) n2 hk
      have ep : p' = p := by
        by_cases g : sd k = true ∧ k ∉ net e1 e2 sd l
        · have h1 := (t3 g.1 g.2).1
          rw [pp1 g.1 g.2] at h1; exact (Option.some.inj h1).symm
        · rw [t4 g, pp2 g]
      subst ep
      exact ⟨I9, r8, K, mfr_trans t1 (mfr_nm n1), t2, n3, t5⟩
    rcases v_rng u p.length (by omega) with ⟨j, hj, e⟩ | hbad
    · subst e
      obtain ⟨u1, u2, u3, u4⟩ := v_rg1 hj (by omega)
      have g : sd k = true ∧ k ∉ net e1 e2 sd l := Classical.byContradiction fun g => by
        rw [pp2 g] at hj; exact absurd hj (Nat.not_lt_zero _)
      have hpp := pp1 g.1 g.2
      left
      refine ⟨kfr_refl, nI (p.getD j 0), ?_, fun L n nc ns => ?_⟩
      · cases p with
        | nil => exact absurd hj (Nat.not_lt_zero _)
        | cons c p =>
        have lp := k_ring68 (d := d + 5) (w := w) (n := n) (nc := nc) (ns := ns) (L := L) hT hq (t := e2 k) (j := j) (vk := nI k) q5 (by omega) j 0 (e1 k) c p (by omega) q4 hpp hj
        have y2' : I kx_ways_hops (e1 k * 10 + e2 k) = nI (c :: p).length := by rw [y2, hpp]; rfl
        have y3' : I kx_ways_step (e1 k * 10 + e2 k) = nI c := by rw [y3, hpp]; rfl
        refine ab_C_of (by decide) rfl (Nat.le_of_ble_eq_true rfl) hT ?_
        refine r_K_ring_0 hT _ _ (by omega) (Nat.le_refl _) (Nat.le_refl _) ?_
        refine Or.inl ⟨need, bb_f u1 ?_⟩
        rw [nl_bit (I kx_forest 2) (show k < 32 by omega), nl_bit (I kx_now_cables 2) (show k < 32 by omega), hb, hsk, nI_clamp (by omega), q1, q2, nl_mul1, nI_add, nI_clamp (by omega), y2', y3', decide_eq_true_iff]
        exact bb_t g.1 (bb_f g.2 ⟨vp_in_nI (by omega) (by omega), vp_in_nI (by omega) (by omega), bb_t u4 lp⟩)
      · obtain ⟨I9, r8, K, m1, m2, m3, m4⟩ := model L n nc ns
        refine ⟨K, (mfr_ok m1).1, (mfr_ok m1).2, ?_⟩
        refine ab_C_of (by decide) rfl (Nat.le_of_ble_eq_true rfl) hT ?_
        refine r_M_ring_0 hT _ _ (Nat.le_refl _) (Nat.le_refl _) ?_
        refine bb_f a1 (bb_f (by rw [z1]; exact a3) ⟨r8, I9, m3, _, K, m4, bb_f u1 (bb_f u3 ⟨vp_in_nI (by omega) (by omega), ?_⟩)⟩)
        rw [nI_clamp (by omega), m2.2.2.1 j hj]
    · right
      refine ⟨kfr_refl, ?_, fun L n nc ns => ?_⟩
      · refine ab_C_of (by decide) rfl (Nat.le_of_ble_eq_true rfl) hT ?_
        refine r_K_ring_0 hT _ _ (by omega) (Nat.le_add_right _ _) (Nat.le_add_right _ _) ?_
        refine Or.inl ⟨need, ?_⟩
        rcases hbad with h | ⟨h1, h2, h3, h4⟩
        · exact bb_t h rfl
        · refine bb_f h1 ?_
          rw [nl_bit (I kx_forest 2) (show k < 32 by omega), nl_bit (I kx_now_cables 2) (show k < 32 by omega), hb, hsk, nI_clamp (by omega), q1, q2, nl_mul1, nI_add, nI_clamp (by omega), decide_eq_true_iff]
          refine ⟨fun g1 => ⟨fun g2 => bb_f h1 rfl, fun g2 => ⟨vp_in_nI (by omega) (by omega), vp_in_nI (by omega) (by omega), bb_f ?_ rfl⟩⟩, fun g1 => bb_f h1 rfl⟩
          rw [y2, pp1 g1 g2]
          exact h4
      · obtain ⟨I9, r8, K, m1, m2, m3, m4⟩ := model L n nc ns
        refine ⟨0, ab_up K mx 1 1, mgr_trans mgr_c (mfr_ok m1).1, by rw [ab_up_i, pk_us], ?_⟩
        refine ab_C_of (by decide) rfl (Nat.le_of_ble_eq_true rfl) hT ?_
        refine r_M_ring_0 hT _ _ (Nat.le_refl _) (Nat.le_refl _) ?_
        refine bb_f a1 (bb_f (by rw [z1]; exact a3) ⟨r8, I9, m3, _, K, m4, ?_⟩)
        rcases hbad with h | ⟨h1, h2, h3, h4⟩
        · exact bb_t h rfl
        · exact bb_f h1 (bb_t h3 rfl)
  · right
    refine ⟨kfr_refl, ?_, fun L n nc ns => ⟨0, _, mgr_x.1, mgr_x.2, ?_⟩⟩
    · refine ab_C_of (by decide) rfl (Nat.le_of_ble_eq_true rfl) hT ?_
      refine r_K_ring_0 hT _ _ (by omega) (Nat.le_add_right _ _) (Nat.le_add_right _ _) ?_
      exact Or.inr ⟨_, need, rfl⟩
    · refine ab_C_of (by decide) rfl (Nat.le_of_ble_eq_true rfl) hT ?_
      refine r_M_ring_0 hT _ _ (Nat.le_refl _) (Nat.le_refl _) ?_
      rcases hbad with h | ⟨h1, h2⟩
      · exact bb_t h rfl
      · exact bb_f h1 (bb_t (by rw [z1]; exact h2) rfl)
theorem j_share (hT : w.1.stackTraces = false) (hR : RQ I S N sd e1 e2 pr fm l) (v : Int32) : qOk w (d + 16) mt_K_share mt_M_share [.int v] I L n nc ns I ∨ qNo w (d + 16) mt_K_share mt_M_share [.int v] I L n nc ns I "java/util/NoSuchElementException" 1 := by
  obtain ⟨hq, hm, -⟩ := hR
  have hm0 : mC (ab_up I mx 1 0) S N sd e1 e2 pr fm l := mC_gr mgr_c hm
  have p1 := hq.1.1.1
  have p3 := hq.1.1.2.2.1
  have p4 := hq.1.1.2.2.2.1
  have hS2 := hq.1.2.2.1
  have z1 : I mx 2 = nI S := hm.1.1
  rcases k_needSite (d := d + 7) (w := w) (n := n) (nc := nc) (ns := ns) (L := L) hT p1 p3 v with ⟨s, hs, e, need⟩ | ⟨hbad, need⟩
  · subst e
    obtain ⟨a1, a2, a3, a4⟩ := v_rg1 hs (by omega)
    have y3 := (kq_w hq s 0 hs (by omega)).2.2.1
    have model : ∀ (L : Nat → Nat → Int64) (n nc ns : Nat), ∃ (I9 : Nat → Nat → Int32) (r8 : Int32) (K : Nat → Nat → Int32) (r : Int32), mfr K (ab_up I mx 1 0) ∧ ((∃ p, pth e1 e2 (net e1 e2 sd l).reverse s 0 = some p ∧ r = nI p.length ∧ wy K N p) ∨ (pth e1 e2 (net e1 e2 sd l).reverse s 0 = none ∧ r = -1 ∧ wy K N [])) ∧ ab_PU w (d + 15) mt_M_netNow [.ref mx] (ab_up I mx 1 0) L n nc ns r8 I9 ∧ ab_PU w (d + 15) mt_M_tellWay [.ref mx, .int r8, .int (nI s), .int 0] I9 L n nc ns r K := fun L n nc ns => by
      obtain ⟨I9, r8, n1, n2, n3⟩ := z_netNow (d := d + 12) (w := w) (n := n) (nc := nc) (ns := ns) (L := L) hT hm0
      obtain ⟨K, r, t1, -, t2, t3⟩ := z_wayN (d := d + 14) (w := w) (n := n) (nc := nc) (ns := ns) (L := L) hT (mC_fr (mfr_nm n1) hm0) n2 hs (show 0 < S by omega)
      exact ⟨I9, r8, K, r, mfr_trans t1 (mfr_nm n1), t2, n3, t3⟩
    left
    cases hp : pth e1 e2 (net e1 e2 sd l).reverse s 0 with
    | none =>
      have hs0 : ¬ nI s = 0 := fun h => by
        have e : s = 0 := (nI_eq (b := 0) (by omega) (by omega)).mp h
        rw [e, pth_self (kq_fo hq)] at hp; cases hp
      rw [hp] at y3
      have y3 : I kx_ways_step (s * 10 + 0) = -1 := y3
      refine ⟨kfr_refl, -1, ?_, fun L n nc ns => ?_⟩
      · refine ab_C_of (by decide) rfl (Nat.le_of_ble_eq_true rfl) hT ?_
        refine r_K_share_0 hT _ (Nat.le_refl _) (Nat.le_refl _) ?_
        refine Or.inl ⟨need, bb_f' hs0 ?_⟩
        rw [nl_mul1, nl_add1, nI_clamp (by omega), y3]
        exact ⟨vp_in_nI (by omega) (by omega), fun h => absurd rfl h, fun _ => rfl⟩
      · obtain ⟨I9, r8, K, r, m1, m2, m3, m4⟩ := model L n nc ns
        rcases m2 with ⟨p', h1, -⟩ | ⟨-, h1, -⟩
        · rw [hp] at h1; cases h1
        · subst h1
          refine ⟨K, (mfr_ok m1).1, (mfr_ok m1).2, ?_⟩
          refine ab_C_of (by decide) rfl (Nat.le_of_ble_eq_true rfl) hT ?_
          refine r_M_share_0 hT _ (Nat.le_refl _) (Nat.le_refl _) ?_
          exact bb_f a1 (bb_f (by rw [z1]; exact a3) ⟨r8, I9, m3, _, K, m4, bb_t' rfl rfl⟩)
    | some p =>
      cases p with
      | nil =>
        have e : s = 0 := pt_nil (pth_pt hp)
        subst e
        refine ⟨kfr_refl, 0, ?_, fun L n nc ns => ?_⟩
        · refine ab_C_of (by decide) rfl (Nat.le_of_ble_eq_true rfl) hT ?_
          refine r_K_share_0 hT _ (Nat.le_refl _) (Nat.le_refl _) ?_
          exact Or.inl ⟨need, bb_t' rfl rfl⟩
        · obtain ⟨I9, r8, K, r, m1, m2, m3, m4⟩ := model L n nc ns
          rcases m2 with ⟨p', h1, h2, -⟩ | ⟨h1, -⟩
          · rw [hp] at h1
            have h1 := Option.some.inj h1
            subst h1
            subst h2
            refine ⟨K, (mfr_ok m1).1, (mfr_ok m1).2, ?_⟩
            refine ab_C_of (by decide) rfl (Nat.le_of_ble_eq_true rfl) hT ?_
            refine r_M_share_0 hT _ (Nat.le_refl _) (Nat.le_refl _) ?_
            exact bb_f a1 (bb_f (by rw [z1]; exact a3) ⟨r8, I9, m3, _, K, m4, bb_f' (by decide) (bb_t' rfl rfl)⟩)
          · rw [hp] at h1; cases h1
      | cons c p =>
        have hs0 : ¬ nI s = 0 := fun h => by
          have e : s = 0 := (nI_eq (b := 0) (by omega) (by omega)).mp h
          rw [e, pth_self (kq_fo hq)] at hp; cases hp
        rw [hp] at y3
        have y3 : I kx_ways_step (s * 10 + 0) = nI c := y3
        have hcT : c ∈ net e1 e2 sd l := List.mem_reverse.mp (pt_mem (pth_pt hp) c List.mem_cons_self).1
        have hcN := ((kq_mem hq c).mp hcT).1
        have q3 := (hq.1.1.2.2.2.2.2.2.2 c hcN).2.2.1
        refine ⟨kfr_refl, nI (pr c), ?_, fun L n nc ns => ?_⟩
        · refine ab_C_of (by decide) rfl (Nat.le_of_ble_eq_true rfl) hT ?_
          refine r_K_share_0 hT _ (Nat.le_refl _) (Nat.le_refl _) ?_
          refine Or.inl ⟨need, bb_f' hs0 ?_⟩
          rw [nl_mul1, nl_add1, nI_clamp (by omega), y3, nI_clamp (by omega), q3]
          exact ⟨vp_in_nI (by omega) (by omega), bb_f' (nI_m1 (by omega)) ⟨vp_in_nI (by omega) (by omega), rfl⟩⟩
        · obtain ⟨I9, r8, K, r, m1, m2, m3, m4⟩ := model L n nc ns
          rcases m2 with ⟨p', h1, h2, h3⟩ | ⟨h1, -⟩
          · rw [hp] at h1
            have h1 := Option.some.inj h1
            subst h1
            subst h2
            have hw0 : K mx_way 0 = nI c := h3.2.2.1 0 (Nat.succ_pos _)
            have hpl := h3.2.1
            have w3 : K mx_now (51 + c) = nI (pr c) := by
              rw [mfr_now m1, ab_up_o (by decide)]; exact (hm.1.2.2.2.2.2 c hcN).2.2.1
            refine ⟨K, (mfr_ok m1).1, (mfr_ok m1).2, ?_⟩
            refine ab_C_of (by decide) rfl (Nat.le_of_ble_eq_true rfl) hT ?_
            refine r_M_share_0 hT _ (Nat.le_refl _) (Nat.le_refl _) ?_
            refine bb_f a1 (bb_f (by rw [z1]; exact a3) ⟨r8, I9, m3, _, K, m4, bb_f' (nI_m1 (by omega)) (bb_f' (fun h => ?_) ?_)⟩)
            · have := (nI_eq (b := 0) (by omega) (by omega)).mp h
              rw [List.length_cons] at this; omega
            · rw [hw0, nl_add2, nI_clamp (by omega), w3]
              exact ⟨vp_in_nI (by omega) (by omega), rfl⟩
          · rw [hp] at h1; cases h1
  · right
    refine ⟨kfr_refl, ?_, fun L n nc ns => ⟨0, _, mgr_x.1, mgr_x.2, ?_⟩⟩
    · refine ab_C_of (by decide) rfl (Nat.le_of_ble_eq_true rfl) hT ?_
      refine r_K_share_0 hT _ (Nat.le_add_right _ _) (Nat.le_add_right _ _) ?_
      exact Or.inr ⟨_, need, rfl⟩
    · refine ab_C_of (by decide) rfl (Nat.le_of_ble_eq_true rfl) hT ?_
      refine r_M_share_0 hT _ (Nat.le_refl _) (Nat.le_refl _) ?_
      rcases hbad with h | ⟨h1, h2⟩
      · exact bb_t h rfl
      · exact bb_f h1 (bb_t (by rw [z1]; exact h2) rfl)
end JWA
