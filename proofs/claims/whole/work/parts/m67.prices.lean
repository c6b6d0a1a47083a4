/-! one PRICE told, on each side -/
def tpf (J I : Nat → Nat → Int32) : Prop := ∀ c, c ≠ kx_now_cables_price → c ≠ kx_now_cables_order → c ≠ kx_forest → c ≠ kx_forest_order → c ≠ kx_forest_piece → c ≠ kx_now_swaps → c ≠ kx_now_swaps_rows → J c = I c
def nB (e1 e2 : Nat → Nat) (sd : Nat → Bool) (l : List Nat) (j : Nat) : Bool := decide (j ∈ net e1 e2 sd l)
section PR2
variable {w : ab_Wd} {d n nc ns : Nat} {I : Nat → Nat → Int32} {L : Nat → Nat → Int64}
variable {S N : Nat} {sd : Nat → Bool} {e1 e2 pr fm : Nat → Nat} {l : List Nat}
theorem nB_24 (hc : kC I S N sd e1 e2 pr fm l) : ∀ k, 24 ≤ k → nB e1 e2 sd l k = false := fun k hk => decide_eq_false (fun h => by
  have := (kp_net hc.1 hc.2.1 (by have := hc.2.2.1; omega) sd).1 k h
  have := hc.1.2.2.2.1
  omega)
theorem mC_mar {K : Nat → Nat → Int32} (h2 : K mx 2 = I mx 2) (hr : ∀ j, j < 99 → j ≠ 2 → K mx_now j = I mx_now j) (hm : mC I S N sd e1 e2 pr fm l) : mC K S N sd e1 e2 pr fm l := by
  obtain ⟨⟨p1, p2, p3, p4, p5, p6⟩, m2, m3, m4, m5⟩ := hm
  refine ⟨⟨h2.trans p1, (hr 0 (by omega) (by omega)).trans p2, p3, p4, p5, fun k hk => ?_⟩, m2, fun k hk => by rw [hr 1 (by omega) (by omega)]; exact m3 k hk, m4, fun k hk => ?_⟩
  · rw [hr (3 + k) (by omega) (by omega), hr (27 + k) (by omega) (by omega), hr (51 + k) (by omega) (by omega)]; exact p6 k hk
  · rw [hr (75 + k) (by omega) (by omega)]; exact m5 k hk
theorem kC_rgf {J : Nat → Nat → Int32} (h : rgf J I) (hc : kC I S N sd e1 e2 pr fm l) : kC J S N sd e1 e2 pr fm l := by
  unfold kC gr_pre at *
  rw [h kx_now_cables (by decide) (by decide) (by decide) (by decide) (by decide), h kx_now_cables_order (by decide) (by decide) (by decide) (by decide) (by decide), h kx_now_cables_first (by decide) (by decide) (by decide) (by decide) (by decide), h kx_now_cables_second (by decide) (by decide) (by decide) (by decide) (by decide), h kx_now_cables_price (by decide) (by decide) (by decide) (by decide) (by decide), h kx_now_cables_firm (by decide) (by decide) (by decide) (by decide) (by decide)]
  exact hc
theorem k_tellPrice (hT : w.1.stackTraces = false) (hc : kC I S N sd e1 e2 pr fm l) (hF : kF I S pr (kr e1 e2 (l.filter sd))) {E0 E k v : Nat} {h : Nat → Nat → Nat} (hH : cH I E0 E h) (hlt : E < E0 + 960) (hE9 : E < 2 ^ 30) (hk : k < N) (h1 : 1 ≤ v) (h9 : v ≤ 999) :
    ∃ J l', od (fun j => if j = k then v else pr j) N l' ∧ tpf J I ∧ kC J S N sd e1 e2 (fun j => if j = k then v else pr j) fm l' ∧ kF J S (fun j => if j = k then v else pr j) (kr e1 e2 (l'.filter sd)) ∧ cH J E0 (nxE (nB e1 e2 sd l) (nB e1 e2 sd l') E) (nxH (nB e1 e2 sd l) (nB e1 e2 sd l') (if v ≤ pr k then 2 else 1) k ((net e1 e2 sd l').map (fun j => if j = k then v else pr j)).sum E h) ∧ ab_U w (d + 4) mt_K_tellPrice [.ref kx, .int (nI k), .int (nI v)] I L n nc ns J := by
  have p4 := hc.1.2.2.2.1
  have q3 := (hc.1.2.2.2.2.2.2.2 k hk).2.2.1
  have q6 := (hc.1.2.2.2.2.2.2.2 k hk).2.2.2.2.2
  by_cases e : v = pr k
  · subst e
    rw [show (fun j => if j = k then pr k else pr j) = pr from upd_self]
    obtain ⟨x1, x2⟩ := nx_t (A := nB e1 e2 sd l) (B := nB e1 e2 sd l) (why := if pr k ≤ pr k then 2 else 1) (k := k) (tot := ((net e1 e2 sd l).map pr).sum) (E := E) (h := h) (fun _ => rfl)
    refine ⟨I, l, hc.2.1, fun _ _ _ _ _ _ _ _ => rfl, hc, hF, by rw [x1, x2]; exact hH, ?_⟩
    refine ab_C_of (by decide) rfl (Nat.le_of_ble_eq_true rfl) hT ?_
    refine r_K_tellPrice_0 hT _ _ (Nat.le_refl _) (Nat.le_refl _) ?_
    rw [nI_clamp (by omega), q3]
    exact ⟨vp_in_nI (by omega) (by omega), bb_t' rfl rfl⟩
  · obtain ⟨g, l', g1, g2, g3⟩ := k_sortP (d := d + 3) (w := w) (n := n) (nc := nc) (ns := ns) (L := L) hT hc hk h1 h9
    have hA : ∀ j, j < 32 → bt ((ab_row (ab_up I kx_now_cables_price k (nI v)) kx_now_cables_order g) kx_forest 2) j = nB e1 e2 sd l j := fun j hj => by
      rw [ab_row_ne (by decide), ab_up_o (by decide)]; exact hF.2.1 j hj
    have hH' : cH (ab_row (ab_up I kx_now_cables_price k (nI v)) kx_now_cables_order g) E0 E h := by
      unfold cH at *
      rw [ab_row_ne (by decide), ab_row_ne (by decide), ab_up_o (by decide), ab_up_o (by decide)]
      exact hH
    have hwhy : (if v ≤ pr k then 2 else 1) < 8 := by split <;> omega
    obtain ⟨J, r1, r2, r3, r4⟩ := ck_regrow (d := d) (w := w) (n := n) (nc := nc) (ns := ns) (L := L) hT g2 hA (nB_24 hc) (why := if v ≤ pr k then 2 else 1) (k := k) hH' hlt hE9 hwhy (by omega)
    refine ⟨J, l', g1, fun c c1 c2 c3 c4 c5 c6 c7 => ?_, kC_rgf r1 g2, r2, r3, ?_⟩
    · rw [r1 c c3 c4 c5 c6 c7, ab_row_ne c2, ab_up_o c1]
    · refine ab_C_of (by decide) rfl (Nat.le_of_ble_eq_true rfl) hT ?_
      refine r_K_tellPrice_0 hT _ _ (Nat.le_refl _) (Nat.le_refl _) ?_
      rw [nI_clamp (by omega), q3]
      refine ⟨vp_in_nI (by omega) (by omega), bb_f' (fun h => e ((nI_eq (by omega) (by omega)).mp h)) ⟨_, g3, fun hle => ?_, fun hle => ?_⟩⟩
      · rw [if_pos ((nI_leI (by omega) (by omega)).mp hle)] at r4
        exact ⟨J, r4, rfl⟩
      · rw [if_neg (fun h => hle ((nI_leI (by omega) (by omega)).mpr h))] at r4
        exact ⟨J, r4, rfl⟩
theorem z_pricesNow (hT : w.1.stackTraces = false) (hm : mC I S N sd e1 e2 pr fm l) (hc24 : ∀ k, 24 ≤ k → nB e1 e2 sd l k = false) {E k v : Nat} {h : Nat → Nat → Nat} (hH : mH (I mx_now) E h) (hE9 : E < 2 ^ 30) (hk : k < N) (h1 : 1 ≤ v) (h9 : v ≤ 999) {l' : List Nat} (hl : od (fun j => if j = k then v else pr j) N l') :
    ∃ J, mar J I ∧ mC J S N sd e1 e2 (fun j => if j = k then v else pr j) fm l' ∧ mH (J mx_now) (nxE (nB e1 e2 sd l) (nB e1 e2 sd l') E) (nxH (nB e1 e2 sd l) (nB e1 e2 sd l') (if v ≤ pr k then 2 else 1) k ((net e1 e2 sd l').map (fun j => if j = k then v else pr j)).sum E h) ∧ ab_U w (d + 5) mt_M_pricesNow [.ref mx, .int (nI k), .int (nI v)] I L n nc ns J := by
  have p4 := hm.1.2.2.2.1
  have hw : ∀ k, k < N → e1 k < S ∧ e2 k < S := fun k hk => ⟨(hm.1.2.2.2.2.2 k hk).2.2.2.1, (hm.1.2.2.2.2.2 k hk).2.2.2.2.1⟩
  have q3 := (hm.1.2.2.2.2.2 k hk).2.2.1
  have q6 := (hm.1.2.2.2.2.2 k hk).2.2.2.2.2
  have ek : (51 + nI k) = nI (51 + k) := nl_add2 51 k
  by_cases e : v = pr k
  · subst e
    have same : ∀ j, nB e1 e2 sd l j = nB e1 e2 sd l' j := fun j => by
      unfold nB
      refine decide_eq_decide.mpr ?_
      rw [net_mem (S := S) hl hw sd j, net_mem (S := S) hm.1.2.2.2.2.1 hw sd j, show (fun j => if j = k then pr k else pr j) = pr from upd_self]
    obtain ⟨x1, x2⟩ := nx_t (why := if pr k ≤ pr k then 2 else 1) (k := k) (tot := ((net e1 e2 sd l').map (fun j => if j = k then pr k else pr j)).sum) (E := E) (h := h) same
    have hm' := mC_price' hm hk h1 h9 hl
    refine ⟨I, ⟨fun _ _ _ => rfl, fun _ _ => rfl⟩, mC_mar (I := ab_up I mx_now (51 + k) (nI (pr k))) (by rw [ab_up_o (by decide)]) (fun j _ _ => ?_) hm', by rw [x1, x2]; exact hH, ?_⟩
    · rw [ab_up_i]
      by_cases ej : j = 51 + k
      · rw [ej, pk_us]; exact q3
      · rw [pk_un ej]
    · refine ab_C_of (by decide) rfl (Nat.le_of_ble_eq_true rfl) hT ?_
      refine r_M_pricesNow_0 hT _ _ (Nat.le_refl _) (Nat.le_refl _) ?_
      rw [ek, nI_clamp (by omega), q3]
      exact ⟨vp_in_nI (by omega) (by omega), bb_t' rfl rfl⟩
  · obtain ⟨I5, r4, n1, n2, n3⟩ := z_netNow (d := d + 1) (w := w) (n := n) (nc := nc) (ns := ns) (L := L) hT hm
    have f := mfr_nm n1
    have hm5 := mC_fr f hm
    have hm' := mC_price' hm5 hk h1 h9 hl
    have hs5 : ((ab_up I5 mx_now (51 + k) (nI v)) mx_now 1) = I mx_now 1 := by rw [ab_up_i, pk_un (by omega), mfr_now f]
    have hsk := hm.2.2.1 k (by omega)
    have hH5 : mH ((ab_up I5 mx_now (51 + k) (nI v)) mx_now) E h := by
      refine ⟨by rw [ab_up_i, pk_un (by omega), mfr_now f]; exact hH.1, fun j h7 h8 q hq => ?_⟩
      rw [ab_up_i, pk_un (by omega), mfr_now f]; exact hH.2 j h7 h8 q hq
    have ma5 : mar (ab_up I5 mx_now (51 + k) (nI v)) I := mar_up (mar_of f)
    by_cases hs : sd k = true
    · obtain ⟨J, j1, j2, j3, j4⟩ := mz_swaps (d := d) (w := w) (n := n) (nc := nc) (ns := ns) (L := L) hT hm' (v := r4) (A := nB e1 e2 sd l) n2 hc24 (why := if v ≤ pr k then 2 else 1) (k := k) hH5 hE9
      refine ⟨J, mar_trans j1 ma5, mC_mar (j1.2 2 (Or.inr (Or.inl rfl))) j3 hm', j2, ?_⟩
      refine ab_C_of (by decide) rfl (Nat.le_of_ble_eq_true rfl) hT ?_
      refine r_M_pricesNow_0 hT _ _ (Nat.le_refl _) (Nat.le_refl _) ?_
      rw [ek, nI_clamp (by omega), q3]
      refine ⟨vp_in_nI (by omega) (by omega), bb_f' (fun h => e ((nI_eq (by omega) (by omega)).mp h)) ⟨r4, I5, n3, ?_⟩⟩
      rw [nl_bit _ (show k < 32 by omega), hs5, hsk]
      refine bb_t hs ⟨fun hle => ?_, fun hle => ?_⟩
      · rw [if_pos ((nI_leI (by omega) (by omega)).mp hle)] at j4
        exact ⟨J, j4, rfl⟩
      · rw [if_neg (fun h => hle ((nI_leI (by omega) (by omega)).mpr h))] at j4
        exact ⟨J, j4, rfl⟩
    · have same : ∀ j, nB e1 e2 sd l j = nB e1 e2 sd l' j := fun j => by
        unfold nB
        exact decide_eq_decide.mpr (net_brk hm.1.2.2.2.2.1 hs hl hw j).symm
      obtain ⟨x1, x2⟩ := nx_t (why := if v ≤ pr k then 2 else 1) (k := k) (tot := ((net e1 e2 sd l').map (fun j => if j = k then v else pr j)).sum) (E := E) (h := h) same
      refine ⟨_, ma5, hm', by rw [x1, x2]; exact hH5, ?_⟩
      refine ab_C_of (by decide) rfl (Nat.le_of_ble_eq_true rfl) hT ?_
      refine r_M_pricesNow_0 hT _ _ (Nat.le_refl _) (Nat.le_refl _) ?_
      rw [ek, nI_clamp (by omega), q3]
      refine ⟨vp_in_nI (by omega) (by omega), bb_f' (fun h => e ((nI_eq (by omega) (by omega)).mp h)) ⟨r4, I5, n3, ?_⟩⟩
      rw [nl_bit _ (show k < 32 by omega), hs5, hsk]
      exact bb_f hs rfl
end PR2
