/-! ALL side by side: the two loops -/
section JA2
variable {w : ab_Wd} {d n nc ns : Nat} {I : Nat → Nat → Int32} {L : Nat → Nat → Int64}
variable {S T N : Nat} {sd : Nat → Bool} {e1 e2 pr fm : Nat → Nat} {l : List Nat}
theorem k_allLoop (hT : w.1.stackTraces = false) {f c E E0 : Nat} {h : Nat → Nat → Nat} {u : Int32} (hf : f < 4) (hc2 : c ≤ 200) (hu : 100 + u = nI c) (hE : E ≤ E0 + 936) (hE9 : E < 2 ^ 29) : ∀ t i (J : Nat → Nat → Int32), i + t = N → kC J S N sd e1 e2 (alS N sd e1 e2 fm f c pr E h i).1 fm (lo (alS N sd e1 e2 fm f c pr E h i).1 N) → kF J S (alS N sd e1 e2 fm f c pr E h i).1 (kr e1 e2 ((lo (alS N sd e1 e2 fm f c pr E h i).1 N).filter sd)) → cH J E0 (alS N sd e1 e2 fm f c pr E h i).2.1 (alS N sd e1 e2 fm f c pr E h i).2.2 → ∃ J', kaf J' J ∧ (∀ a, a = kx_now_acts ∨ a = kx_now_acts_prices ∨ a = kx_now_acts_counts ∨ a = kx_now_acts_sounds ∨ a = kx_now_acts_swaps → J' a = J a) ∧ kQ J' S N sd e1 e2 (alS N sd e1 e2 fm f c pr E h N).1 fm (lo (alS N sd e1 e2 fm f c pr E h N).1 N) ∧ cH J' E0 (alS N sd e1 e2 fm f c pr E h N).2.1 (alS N sd e1 e2 fm f c pr E h N).2.2 ∧ ab_E w ((d + 14) + 2) mt_K_all 51 [.ref kx, .int (nI f), .int u, .ref kx_now_cables, .int (nI i)] [] (J, L, ab_RR, n, nc, ns) (.inl (some (.int (nI ((net e1 e2 sd (lo (alS N sd e1 e2 fm f c pr E h N).1 N)).map (alS N sd e1 e2 fm f c pr E h N).1).sum))), (J', L, ab_RR, n, nc, ns)) := by
  intro t
  induction t with
  | zero =>
    intro i J hi k1 F1 h1
    have e : i = N := by omega
    subst e
    obtain ⟨J', f3, k3, u3⟩ := k_ways (d := d + 12) (w := w) (n := n) (nc := nc) (ns := ns) (L := L) hT k1 F1
    refine ⟨J', kaf_wy f3, fun a ha => ?_, k3, cH_cong (f3 _ (by decide) (by decide) (by decide) (by decide) (by decide)) (f3 _ (by decide) (by decide) (by decide) (by decide) (by decide)) h1, ?_⟩
    · rcases ha with e | e | e | e | e <;> subst e <;> exact f3 _ (by decide) (by decide) (by decide) (by decide) (by decide)
    · refine r_K_all_51 hT _ _ _ (Nat.le_refl _) (Nat.le_refl _) ?_
      rw [k1.1.2.1]
      refine bb_t (nI_le (Nat.le_refl _) (by have := k1.1.2.2.2.1; omega)) ⟨_, u3, ?_⟩
      have r3 : J' kx_forest 3 = _ := k3.2.2.2.1
      rw [r3]; rfl
  | succ t ih =>
    intro i J hi k1 F1 h1
    have p4 := k1.1.2.2.2.1
    have q := k1.2.2.2.2.2 i (by omega)
    have q3 := (k1.1.2.2.2.2.2.2.2 i (by omega)).2.2.1
    have q6 := (k1.1.2.2.2.2.2.2.2 i (by omega)).2.2.2.2.2
    have hle : ¬ nI N ≤ nI i := fun h => by have := (nI_leI (by omega) (by omega)).mp h; omega
    have aE := alS_E (N := N) (sd := sd) (e1 := e1) (e2 := e2) (fm := fm) (f := f) (c := c) (pr := pr) (E := E) (h := h) i
    by_cases hq : fm i = f
    · obtain ⟨y1, y2, y3⟩ := alS_yes (N := N) (sd := sd) (e1 := e1) (e2 := e2) (pr := pr) (c := c) (E := E) (h := h) hq
      have zb := hdP_b c ((alS N sd e1 e2 fm f c pr E h i).1 i)
      obtain ⟨J2, l', o2, f2, k2, F2, h2, u2⟩ := k_tellPrice (d := d + 11) (w := w) (n := n) (nc := nc) (ns := ns) (L := L) hT k1 F1 h1 (by omega) (by omega) (show i < N by omega) zb.1 zb.2
      have el := lo_eq o2
      subst el
      rw [← y1] at k2 F2
      rw [← y2, ← y3] at h2
      obtain ⟨J', g1, g2, g3, g4, g5⟩ := ih (i + 1) J2 (by omega) k2 F2 h2
      refine ⟨J', kaf_trans g1 (kaf_tp f2), fun a ha => (g2 a ha).trans ?_, g3, g4, ?_⟩
      · rcases ha with e | e | e | e | e <;> subst e <;> exact f2 _ (by decide) (by decide) (by decide) (by decide) (by decide) (by decide) (by decide)
      · refine r_K_all_51 hT _ _ _ (Nat.le_refl _) (Nat.le_refl _) ?_
        rw [k1.1.2.1, nI_clamp (by omega), q.1, hq, q3, hd_nI hc2 q6 hu, nI_1]
        exact bb_f hle ⟨vp_in_nI (by omega) (by omega), bb_t' rfl ⟨_, u2, g5⟩⟩
    · have y := alS_no (N := N) (sd := sd) (e1 := e1) (e2 := e2) (pr := pr) (c := c) (E := E) (h := h) hq
      rw [← y] at k1 F1 h1
      obtain ⟨J', g1, g2, g3, g4, g5⟩ := ih (i + 1) J (by omega) k1 F1 h1
      refine ⟨J', g1, g2, g3, g4, ?_⟩
      refine r_K_all_51 hT _ _ _ (Nat.le_refl _) (Nat.le_refl _) ?_
      rw [k1.1.2.1, nI_clamp (by omega), q.1, nI_1]
      exact bb_f hle ⟨vp_in_nI (by omega) (by omega), bb_f' (fun h => hq ((nI_eq (by omega) (by omega)).mp h)) g5⟩
theorem z_allLoop (hT : w.1.stackTraces = false) {f c E : Nat} {h : Nat → Nat → Nat} {u : Int32} (hf : f < 4) (hc2 : c ≤ 200) (hu : 100 + u = nI c) (hE9 : E < 2 ^ 29) : ∀ t i (K : Nat → Nat → Int32), i + t = N → mC K S N sd e1 e2 (alS N sd e1 e2 fm f c pr E h i).1 fm (lo (alS N sd e1 e2 fm f c pr E h i).1 N) → mH (K mx_now) (alS N sd e1 e2 fm f c pr E h i).2.1 (alS N sd e1 e2 fm f c pr E h i).2.2 → ∃ K', mar K' K ∧ mC K' S N sd e1 e2 (alS N sd e1 e2 fm f c pr E h N).1 fm (lo (alS N sd e1 e2 fm f c pr E h N).1 N) ∧ mH (K' mx_now) (alS N sd e1 e2 fm f c pr E h N).2.1 (alS N sd e1 e2 fm f c pr E h N).2.2 ∧ ab_E w ((d + 15) + 1) mt_M_all 45 [.ref mx, .int (nI f), .int u, .int (nI i)] [] (K, L, ab_RR, n, nc, ns) (.inl (some (.int (nI ((net e1 e2 sd (lo (alS N sd e1 e2 fm f c pr E h N).1 N)).map (alS N sd e1 e2 fm f c pr E h N).1).sum))), (K', L, ab_RR, n, nc, ns)) := by
  intro t
  induction t with
  | zero =>
    intro i K hi k1 h1
    have e : i = N := by omega
    subst e
    obtain ⟨K', f3, u3⟩ := z_totalNow (d := d + 11) (w := w) (n := n) (nc := nc) (ns := ns) (L := L) hT k1
    refine ⟨K', mar_of f3, mC_fr f3 k1, by rw [mfr_now f3]; exact h1, ?_⟩
    refine r_M_all_45 hT _ _ _ (Nat.le_refl _) (Nat.le_refl _) ?_
    rw [k1.1.2.1]
    exact bb_t (nI_le (Nat.le_refl _) (by have := k1.1.2.2.2.1; omega)) ⟨_, _, u3, rfl⟩
  | succ t ih =>
    intro i K hi k1 h1
    have p4 := k1.1.2.2.2.1
    have q := k1.2.2.2.2 i (by omega)
    have q3 := (k1.1.2.2.2.2.2 i (by omega)).2.2.1
    have q6 := (k1.1.2.2.2.2.2 i (by omega)).2.2.2.2.2
    have hle : ¬ nI N ≤ nI i := fun h => by have := (nI_leI (by omega) (by omega)).mp h; omega
    have aE := alS_E (N := N) (sd := sd) (e1 := e1) (e2 := e2) (fm := fm) (f := f) (c := c) (pr := pr) (E := E) (h := h) i
    by_cases hq : fm i = f
    · obtain ⟨y1, y2, y3⟩ := alS_yes (N := N) (sd := sd) (e1 := e1) (e2 := e2) (pr := pr) (c := c) (E := E) (h := h) hq
      have zb := hdP_b c ((alS N sd e1 e2 fm f c pr E h i).1 i)
      have n24 : ∀ k, 24 ≤ k → nB e1 e2 sd (lo (alS N sd e1 e2 fm f c pr E h i).1 N) k = false := fun k hk => decide_eq_false (fun hm => by have := (net_lt k1.1 hm).1; omega)
      obtain ⟨K2, f2, k2, h2, u2⟩ := z_pricesNow (d := d + 10) (w := w) (n := n) (nc := nc) (ns := ns) (L := L) hT k1 n24 h1 (by omega) (show i < N by omega) zb.1 zb.2 (lo_od _ N)
      rw [← y1] at k2
      rw [← y2, ← y3] at h2
      obtain ⟨K', g1, g3, g4, g5⟩ := ih (i + 1) K2 (by omega) k2 h2
      refine ⟨K', mar_trans g1 f2, g3, g4, ?_⟩
      refine r_M_all_45 hT _ _ _ (Nat.le_refl _) (Nat.le_refl _) ?_
      rw [k1.1.2.1, nl_add2, nl_add2, nI_clamp (by omega), nI_clamp (by omega), q.1, hq, q3, hd_nI hc2 q6 hu, nI_1]
      exact bb_f hle ⟨vp_in_nI (by omega) (by omega), bb_t' rfl ⟨vp_in_nI (by omega) (by omega), _, u2, g5⟩⟩
    · have y := alS_no (N := N) (sd := sd) (e1 := e1) (e2 := e2) (pr := pr) (c := c) (E := E) (h := h) hq
      rw [← y] at k1 h1
      obtain ⟨K', g1, g3, g4, g5⟩ := ih (i + 1) K (by omega) k1 h1
      refine ⟨K', g1, g3, g4, ?_⟩
      refine r_M_all_45 hT _ _ _ (Nat.le_refl _) (Nat.le_refl _) ?_
      rw [k1.1.2.1, nl_add2, nI_clamp (by omega), q.1, nI_1]
      exact bb_f hle ⟨vp_in_nI (by omega) (by omega), bb_f' (fun h => hq ((nI_eq (by omega) (by omega)).mp h)) g5⟩
theorem j_all (hT : w.1.stackTraces = false) (g : RR I T) (hT9 : T ≤ 1000) (v u : Int32) : jA w (d + 16) mt_K_all mt_M_all [.int v, .int u] I L n nc ns (T + 1) := by
  obtain ⟨S, ⟨N, sd, e1, e2, pr, fm, l, E, h, o, m, ac, rr, mn, cb, ib, hs, hn⟩, ht, hi⟩ := id g
  have p4 := hs.1.1.2.2.2.1
  have hE := hs.2.2.2.2.2.2.2.1
  have ref := ref_ok (i := 1) (Or.inl rfl) g
  have el := lo_eq hs.1.2.1
  have bad : (ab_E w ((d + 14) + 2) mt_K_all 0 [.ref kx, .int v, .int u, .null, .null] [] (I, L, ab_RR, n, nc, ns) (.inl (some (.int (-1))), ((ab_up I kx_now_refused 1 (I kx_now_refused 1 + 1)), L, ab_RR, n, nc, ns))) → (∀ (L : Nat → Nat → Int64) (n nc ns : Nat), ab_E w ((d + 15) + 1) mt_M_all 0 [.ref mx, .int v, .int u, .null] [] ((ab_up I kx_now_refused 1 (I kx_now_refused 1 + 1)), L, ab_RR, n, nc, ns) (.inl (some (.int (-1))), ((ab_up (ab_up (ab_up I kx_now_refused 1 (I kx_now_refused 1 + 1)) mx 1 0) mx_status 1 ((ab_up I kx_now_refused 1 (I kx_now_refused 1 + 1)) mx_status 1 + 1)), L, ab_RR, n, nc, ns))) → jA w (d + 16) mt_K_all mt_M_all [.int v, .int u] I L n nc ns (T + 1) := by
    intro A B
    refine ⟨-1, (ab_up I kx_now_refused 1 (I kx_now_refused 1 + 1)), ?_, fun L n nc ns => ⟨_, ?_, ref⟩⟩
    · refine ab_C_of (by decide) rfl (Nat.le_of_ble_eq_true rfl) hT ?_
      exact A
    · refine ab_C_of (by decide) rfl (Nat.le_of_ble_eq_true rfl) hT ?_
      exact B L n nc ns
  rcases v_rng v 4 (by omega) with ⟨f, hf4, e⟩ | hv | ⟨hv1, hv2, hv3, hv4⟩
  case inr.inl =>
    refine bad ?_ (fun L n nc ns => ?_)
    · refine r_K_all_0 hT _ _ (Nat.le_refl _) (Nat.le_refl _) ?_
      exact bb_t hv rfl
    · refine r_M_all_0 hT _ _ (Nat.le_refl _) (Nat.le_refl _) ?_
      exact bb_t hv rfl
  case inr.inr =>
    refine bad ?_ (fun L n nc ns => ?_)
    · refine r_K_all_0 hT _ _ (Nat.le_refl _) (Nat.le_refl _) ?_
      exact bb_f hv1 (bb_t hv2 rfl)
    · refine r_M_all_0 hT _ _ (Nat.le_refl _) (Nat.le_refl _) ?_
      exact bb_f hv1 (bb_t hv3 rfl)
  subst e
  obtain ⟨a1, a2, a3, a4⟩ := v_rg1 hf4 (by omega)
  rcases v_hu u with ⟨c, hc1, hc2, hu, b1, b2⟩ | hv | ⟨hv1, hv2⟩
  case inr.inl =>
    refine bad ?_ (fun L n nc ns => ?_)
    · refine r_K_all_0 hT _ _ (Nat.le_refl _) (Nat.le_refl _) ?_
      exact bb_f a1 (bb_f a2 (bb_t hv rfl))
    · refine r_M_all_0 hT _ _ (Nat.le_refl _) (Nat.le_refl _) ?_
      exact bb_f a1 (bb_f a3 (bb_t hv rfl))
  case inr.inr =>
    refine bad ?_ (fun L n nc ns => ?_)
    · refine r_K_all_0 hT _ _ (Nat.le_refl _) (Nat.le_refl _) ?_
      exact bb_f a1 (bb_f a2 (bb_f hv1 (bb_t hv2 rfl)))
    · refine r_M_all_0 hT _ _ (Nat.le_refl _) (Nat.le_refl _) ?_
      exact bb_f a1 (bb_f a3 (bb_f hv1 (bb_t hv2 rfl)))
  have of := k_ofFirm (d := d + 15) (w := w) (n := n) (nc := nc) (ns := ns) (L := L) hT hs.1 hf4
  have mz : ab_mask N (fun k => decide (fm k = f)) = 0 ↔ ∀ k, k < N → ¬ fm k = f := by
    have z0 : ∀ j, j < 32 → bt (0 : Int32) j = false := fun j hj => by
      have : ∀ j : Fin 32, bt (0 : Int32) j.1 = false := by decide
      exact this ⟨j, hj⟩
    constructor
    · intro h k hk hq
      have := ab_mask_bt (fun k => decide (fm k = f)) N (by omega) k (by omega)
      rw [h, z0 k (by omega), decide_eq_true hk, Bool.true_and] at this
      exact of_decide_eq_false this.symm hq
    · intro h
      refine b_ext fun k hk => ?_
      rw [ab_mask_bt _ N (by omega) k hk, z0 k hk]
      by_cases hN : k < N
      · rw [decide_eq_true hN, Bool.true_and]; exact decide_eq_false (h k hN)
      · rw [decide_eq_false hN]; rfl
  by_cases hno : ∀ k, k < N → ¬ fm k = f
  · refine bad ?_ (fun L n nc ns => ?_)
    · refine r_K_all_0 hT _ _ (Nat.le_refl _) (Nat.le_refl _) ?_
      exact bb_f a1 (bb_f a2 (bb_f b1 (bb_f b2 ⟨_, of, bb_t' (mz.mpr hno) rfl⟩)))
    · have hm' : mC (ab_up (ab_up I kx_now_refused 1 (I kx_now_refused 1 + 1)) mx 1 0) S N sd e1 e2 pr fm l := by
        have hm := hs.2.1
        unfold mC nm_pre at *
        rw [ab_up_o (show mx_now ≠ mx by decide), ab_up_i, pk_un (by decide), ab_up_o (show mx_now ≠ kx_now_refused by decide), ab_up_o (show mx ≠ kx_now_refused by decide)]
        exact hm
      obtain ⟨r, r1, r2⟩ := z_hasCables (d := d + 14) (w := w) (n := n) (nc := nc) (ns := ns) (L := L) hT hm' hf4
      refine r_M_all_0 hT _ _ (Nat.le_refl _) (Nat.le_refl _) ?_
      exact bb_f a1 (bb_f a3 (bb_f b1 (bb_f b2 ⟨_, r2, bb_t' (r1.mpr hno) rfl⟩)))
  clear bad
  obtain ⟨J1, o', f1, k1, F1, A1, h1, b9, x1, xl, xe, u1⟩ := a_keep (d := d + 13) (w := w) (n := n) (nc := nc) (ns := ns) (L := L) hT hs hn
  have s0 : alS N sd e1 e2 fm f c pr E h 0 = (pr, E, h) := rfl
  obtain ⟨J2, f2, g2, k2, h2, u2⟩ := k_allLoop (d := d) (w := w) (n := n) (nc := nc) (ns := ns) (L := L) hT (S := S) (N := N) (sd := sd) (e1 := e1) (e2 := e2) (fm := fm) (pr := pr) (h := h) hf4 hc2 hu b9 (by omega) N 0 J1 (by omega) (by rw [s0]; rw [el] at k1; exact k1) (by rw [s0]; rw [el] at F1; exact F1) (by rw [s0]; exact h1)
  have fJ : kaf J2 I := kaf_trans f2 f1
  have aE := alS_E (N := N) (sd := sd) (e1 := e1) (e2 := e2) (fm := fm) (f := f) (c := c) (pr := pr) (E := E) (h := h) N
  refine ⟨nI ((net e1 e2 sd (lo (alS N sd e1 e2 fm f c pr E h N).1 N)).map (alS N sd e1 e2 fm f c pr E h N).1).sum, J2, ?_, fun L n nc ns => ?_⟩
  · refine ab_C_of (by decide) rfl (Nat.le_of_ble_eq_true rfl) hT ?_
    refine r_K_all_0 hT _ _ (Nat.le_refl _) (Nat.le_refl _) ?_
    exact bb_f a1 (bb_f a2 (bb_f b1 (bb_f b2 ⟨_, of, bb_f' (fun h => hno (mz.mp h)) ⟨_, u1, u2⟩⟩)))
  · obtain ⟨K1, g1, g0, m1, n1, M1, v1⟩ := b_keep (d := d + 15) (w := w) (n := n) (nc := nc) (ns := ns) (L := L) hT fJ hs
    have hh : mH (K1 mx_now) E h := by rw [n1]; exact hs.2.2.2.1
    obtain ⟨K2, q1, q2, q3, v2⟩ := z_allLoop (d := d) (w := w) (n := n) (nc := nc) (ns := ns) (L := L) hT (E := E) (S := S) (N := N) (sd := sd) (e1 := e1) (e2 := e2) (fm := fm) (pr := pr) (h := h) hf4 hc2 hu (by omega) N 0 K1 (by omega) (by rw [s0]; rw [el] at m1; exact m1) (by rw [s0]; exact hh)
    have hm' : mC (ab_up J2 mx 1 0) S N sd e1 e2 pr fm l := by
      have hm := hs.2.1
      unfold mC nm_pre at *
      rw [ab_up_o (show mx_now ≠ mx by decide), ab_up_i, pk_un (by decide), kaf_ge fJ (show mx ≤ mx_now by decide), kaf_ge fJ (Nat.le_refl mx)]
      exact hm
    obtain ⟨r, r1, r2⟩ := z_hasCables (d := d + 14) (w := w) (n := n) (nc := nc) (ns := ns) (L := L) hT hm' hf4
    refine ⟨K2, ?_, RR_act (o' := o') hs ht hi fJ (maf_trans (maf_ma q1) g1) k2 (by rw [xe]; exact h2) (aK_cong (g2 _ (by decide)) (g2 _ (by decide)) (g2 _ (by decide)) (g2 _ (by decide)) (g2 _ (by decide)) A1) q2 q3 ?_ (aX_told x1 aE.1 (fun a ha => by rw [xl a ha]; omega) (fun j hj => aE.2.2 j hj)) (by omega)⟩
    · refine ab_C_of (by decide) rfl (Nat.le_of_ble_eq_true rfl) hT ?_
      refine r_M_all_0 hT _ _ (Nat.le_refl _) (Nat.le_refl _) ?_
      exact bb_f a1 (bb_f a3 (bb_f b1 (bb_f b2 ⟨_, r2, bb_f' (fun h => hno (r1.mp h)) ⟨_, v1, v2⟩⟩)))
    · refine ⟨by rw [q1.2 41 (by unfold mkf; decide)]; exact M1.1, M1.2.1, fun a ha j hj => ?_⟩
      rw [q1.1 _ (by unfold mscr; decide) (by decide)]; exact M1.2.2 a ha j hj
end JA2
