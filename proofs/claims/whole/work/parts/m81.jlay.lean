/-! LAY side by side -/
section JLA
variable {w : ab_Wd} {d n nc ns : Nat} {I : Nat → Nat → Int32} {L : Nat → Nat → Int64}
variable {S T N : Nat} {sd : Nat → Bool} {e1 e2 pr fm : Nat → Nat} {l : List Nat}
theorem j_lay (hT : w.1.stackTraces = false) (g : RR I T) (hT9 : T ≤ 1000) (v u p f : Int32) : jA w (d + 16) mt_K_lay mt_M_lay [.int v, .int u, .int p, .int f] I L n nc ns (T + 1) := by
  obtain ⟨S, ⟨N, sd, e1, e2, pr, fm, l, E, h, o, m, ac, rr, mn, cb, ib, hs, hn⟩, ht, hi⟩ := id g
  have c0 : I kx_now_cables 0 = nI S := hs.1.1.1
  have c1 : I kx_now_cables 1 = nI N := hs.1.1.2.1
  have z0 : I mx 2 = nI S := hs.2.1.1.1
  have z1 : I mx_now 0 = nI N := hs.2.1.1.2.1
  have p3 := hs.1.1.2.2.1
  have p4 := hs.1.1.2.2.2.1
  have hE := hs.2.2.2.2.2.2.2.1
  have ref := ref_ok (i := 1) (Or.inl rfl) g
  have zJ0 : (ab_up I kx_now_refused 1 (I kx_now_refused 1 + 1)) mx 2 = nI S := by rw [ab_up_o (by decide)]; exact z0
  have zJ1 : (ab_up I kx_now_refused 1 (I kx_now_refused 1 + 1)) mx_now 0 = nI N := by rw [ab_up_o (by decide)]; exact z1
  have bad : (ab_E w ((d + 15) + 1) mt_K_lay 0 [.ref kx, .int v, .int u, .int p, .int f, .null, .null, .null] [] (I, L, ab_RR, n, nc, ns) (.inl (some (.int (-1))), ((ab_up I kx_now_refused 1 (I kx_now_refused 1 + 1)), L, ab_RR, n, nc, ns))) → (∀ (L : Nat → Nat → Int64) (n nc ns : Nat), ab_E w ((d + 14) + 2) mt_M_lay 0 [.ref mx, .int v, .int u, .int p, .int f, .null, .null] [] ((ab_up I kx_now_refused 1 (I kx_now_refused 1 + 1)), L, ab_RR, n, nc, ns) (.inl (some (.int (-1))), ((ab_up (ab_up (ab_up I kx_now_refused 1 (I kx_now_refused 1 + 1)) mx 1 0) mx_status 1 ((ab_up I kx_now_refused 1 (I kx_now_refused 1 + 1)) mx_status 1 + 1)), L, ab_RR, n, nc, ns))) → jA w (d + 16) mt_K_lay mt_M_lay [.int v, .int u, .int p, .int f] I L n nc ns (T + 1) := by
    intro A B
    refine ⟨-1, (ab_up I kx_now_refused 1 (I kx_now_refused 1 + 1)), ?_, fun L n nc ns => ⟨_, ?_, ref⟩⟩
    · refine ab_C_of (by decide) rfl (Nat.le_of_ble_eq_true rfl) hT ?_
      exact A
    · refine ab_C_of (by decide) rfl (Nat.le_of_ble_eq_true rfl) hT ?_
      exact B L n nc ns
  rcases v_rng v S (by omega) with ⟨a, ha, e⟩ | hv | ⟨hv1, hv2, hv3, hv4⟩
  case inr.inl =>
    refine bad ?_ (fun L n nc ns => ?_)
    · refine r_K_lay_0 hT _ _ _ _ (Nat.le_refl _) (Nat.le_refl _) ?_
      exact bb_t hv rfl
    · refine r_M_lay_0 hT _ _ _ _ (Nat.le_refl _) (Nat.le_refl _) ?_
      exact bb_t hv rfl
  case inr.inr =>
    refine bad ?_ (fun L n nc ns => ?_)
    · refine r_K_lay_0 hT _ _ _ _ (Nat.le_refl _) (Nat.le_refl _) ?_
      rw [c0]
      exact bb_f hv1 (bb_t hv2 rfl)
    · refine r_M_lay_0 hT _ _ _ _ (Nat.le_refl _) (Nat.le_refl _) ?_
      rw [zJ0]
      exact bb_f hv1 (bb_t hv3 rfl)
  subst e
  obtain ⟨a1, a2, a3, a4⟩ := v_rg1 ha (by omega)
  rcases v_rng u S (by omega) with ⟨b, hb, e⟩ | hv | ⟨hv1, hv2, hv3, hv4⟩
  case inr.inl =>
    refine bad ?_ (fun L n nc ns => ?_)
    · refine r_K_lay_0 hT _ _ _ _ (Nat.le_refl _) (Nat.le_refl _) ?_
      rw [c0]
      exact bb_f a1 (bb_f a2 (bb_t hv rfl))
    · refine r_M_lay_0 hT _ _ _ _ (Nat.le_refl _) (Nat.le_refl _) ?_
      rw [zJ0]
      exact bb_f a1 (bb_f a3 (bb_t hv rfl))
  case inr.inr =>
    refine bad ?_ (fun L n nc ns => ?_)
    · refine r_K_lay_0 hT _ _ _ _ (Nat.le_refl _) (Nat.le_refl _) ?_
      rw [c0]
      exact bb_f a1 (bb_f a2 (bb_f hv1 (bb_t hv2 rfl)))
    · refine r_M_lay_0 hT _ _ _ _ (Nat.le_refl _) (Nat.le_refl _) ?_
      rw [zJ0]
      exact bb_f a1 (bb_f a3 (bb_f hv1 (bb_t hv3 rfl)))
  subst e
  obtain ⟨b1, b2, b3, b4⟩ := v_rg1 hb (by omega)
  by_cases hab : a = b
  · subst hab
    refine bad ?_ (fun L n nc ns => ?_)
    · refine r_K_lay_0 hT _ _ _ _ (Nat.le_refl _) (Nat.le_refl _) ?_
      rw [c0]
      exact bb_f a1 (bb_f a2 (bb_f a1 (bb_f a2 (bb_t rfl rfl))))
    · refine r_M_lay_0 hT _ _ _ _ (Nat.le_refl _) (Nat.le_refl _) ?_
      rw [zJ0]
      exact bb_f a1 (bb_f a3 (bb_f a1 (bb_f a3 (bb_t rfl rfl))))
  have ne : ¬ nI a = nI b := fun h => hab ((nI_eq (by omega) (by omega)).mp h)
  rcases v_pr p with ⟨q, hq1, hq9, e, d1, d2⟩ | hv | ⟨hv1, hv2⟩
  case inr.inl =>
    refine bad ?_ (fun L n nc ns => ?_)
    · refine r_K_lay_0 hT _ _ _ _ (Nat.le_refl _) (Nat.le_refl _) ?_
      rw [c0]
      exact bb_f a1 (bb_f a2 (bb_f b1 (bb_f b2 (bb_f ne (bb_t hv rfl)))))
    · refine r_M_lay_0 hT _ _ _ _ (Nat.le_refl _) (Nat.le_refl _) ?_
      rw [zJ0]
      exact bb_f a1 (bb_f a3 (bb_f b1 (bb_f b3 (bb_f ne (bb_t hv rfl)))))
  case inr.inr =>
    refine bad ?_ (fun L n nc ns => ?_)
    · refine r_K_lay_0 hT _ _ _ _ (Nat.le_refl _) (Nat.le_refl _) ?_
      rw [c0]
      exact bb_f a1 (bb_f a2 (bb_f b1 (bb_f b2 (bb_f ne (bb_f hv1 (bb_t hv2 rfl))))))
    · refine r_M_lay_0 hT _ _ _ _ (Nat.le_refl _) (Nat.le_refl _) ?_
      rw [zJ0]
      exact bb_f a1 (bb_f a3 (bb_f b1 (bb_f b3 (bb_f ne (bb_f hv1 (bb_t hv2 rfl))))))
  subst e
  rcases v_rng f 4 (by omega) with ⟨c, hc4, e⟩ | hv | ⟨hv1, hv2, hv3, hv4⟩
  case inr.inl =>
    refine bad ?_ (fun L n nc ns => ?_)
    · refine r_K_lay_0 hT _ _ _ _ (Nat.le_refl _) (Nat.le_refl _) ?_
      rw [c0]
      exact bb_f a1 (bb_f a2 (bb_f b1 (bb_f b2 (bb_f ne (bb_f d1 (bb_f d2 (bb_t hv rfl)))))))
    · refine r_M_lay_0 hT _ _ _ _ (Nat.le_refl _) (Nat.le_refl _) ?_
      rw [zJ0]
      exact bb_f a1 (bb_f a3 (bb_f b1 (bb_f b3 (bb_f ne (bb_f d1 (bb_f d2 (bb_t hv rfl)))))))
  case inr.inr =>
    refine bad ?_ (fun L n nc ns => ?_)
    · refine r_K_lay_0 hT _ _ _ _ (Nat.le_refl _) (Nat.le_refl _) ?_
      rw [c0]
      exact bb_f a1 (bb_f a2 (bb_f b1 (bb_f b2 (bb_f ne (bb_f d1 (bb_f d2 (bb_f hv1 (bb_t hv2 rfl))))))))
    · refine r_M_lay_0 hT _ _ _ _ (Nat.le_refl _) (Nat.le_refl _) ?_
      rw [zJ0]
      exact bb_f a1 (bb_f a3 (bb_f b1 (bb_f b3 (bb_f ne (bb_f d1 (bb_f d2 (bb_f hv1 (bb_t hv3 rfl))))))))
  subst e
  obtain ⟨f1', f2', f3', f4'⟩ := v_rg1 hc4 (by omega)
  by_cases hN : N = 24
  · refine bad ?_ (fun L n nc ns => ?_)
    · refine r_K_lay_0 hT _ _ _ _ (Nat.le_refl _) (Nat.le_refl _) ?_
      rw [c0, c1, hN]
      exact bb_f a1 (bb_f a2 (bb_f b1 (bb_f b2 (bb_f ne (bb_f d1 (bb_f d2 (bb_f f1' (bb_f f2' (bb_t (by decide) rfl)))))))))
    · refine r_M_lay_0 hT _ _ _ _ (Nat.le_refl _) (Nat.le_refl _) ?_
      rw [zJ0, zJ1, hN]
      exact bb_f a1 (bb_f a3 (bb_f b1 (bb_f b3 (bb_f ne (bb_f d1 (bb_f d2 (bb_f f1' (bb_f f3' (bb_t' rfl rfl)))))))))
  have hN4 : N < 24 := by omega
  clear bad
  obtain ⟨J1, o', f1, k1, F1, A1, h1, b9, x1, xl, xe, u1⟩ := a_keep (d := d + 13) (w := w) (n := n) (nc := nc) (ns := ns) (L := L) hT hs hn
  have i1 : J1 kx_now_cables 1 = nI N := k1.1.2.1
  obtain ⟨g', l', od', k2, u2⟩ := k_add (d := d + 15) (w := w) (n := n) (nc := nc) (ns := ns) (L := L) hT k1 hN4 ha hb hab hq1 hq9 hc4 rfl
  generalize hI2 : (ab_up (ab_up (ab_up (ab_up (ab_up (ab_up J1 kx_now_cables_first N (nI a)) kx_now_cables_second N (nI b)) kx_now_cables_price N (nI q)) kx_now_cables_firm N (nI c)) kx_now_cables 2 ((J1 kx_now_cables 2) ||| ((1 : Int32) <<< (nI N &&& 31)))) kx_now_cables 1 (nI (N + 1))) = I2 at k2 u2
  have fI2 : ∀ c, c ≠ kx_now_cables → c ≠ kx_now_cables_first → c ≠ kx_now_cables_second → c ≠ kx_now_cables_price → c ≠ kx_now_cables_firm → c ≠ kx_now_cables_order → (ab_row I2 kx_now_cables_order g') c = J1 c := fun c c1 c2 c3 c4 c5 c6 => by
    rw [ab_row_ne c6, ← hI2, ab_up_o c1, ab_up_o c1, ab_up_o c5, ab_up_o c4, ab_up_o c3, ab_up_o c2]
  have hA : ∀ k, k < 32 → bt ((ab_row I2 kx_now_cables_order g') kx_forest 2) k = nB e1 e2 sd l k := fun k hk => by
    rw [fI2 _ (by decide) (by decide) (by decide) (by decide) (by decide) (by decide)]; exact F1.2.1 k hk
  obtain ⟨J2, r1, F2, h2, u3⟩ := ck_regrow (d := d + 12) (w := w) (n := n) (nc := nc) (ns := ns) (L := L) hT k2 (A := nB e1 e2 sd l) hA (nB_24 hs.1) (why := 5) (k := N) (cH_cong (fI2 _ (by decide) (by decide) (by decide) (by decide) (by decide) (by decide)) (fI2 _ (by decide) (by decide) (by decide) (by decide) (by decide) (by decide)) h1) (by omega) (by omega) (by omega) hN4
  obtain ⟨J3, f3, k3, u4⟩ := k_ways (d := d + 12) (w := w) (n := n) (nc := nc) (ns := ns) (L := L) hT (kC_rgf r1 k2) F2
  have fJ : kaf J3 I := kaf_trans (kaf_wy f3) (kaf_trans (kaf_rg r1) (kaf_trans (fun c hc => fI2 c (fun e => hc (by rw [e]; unfold kac knc; decide)) (fun e => hc (by rw [e]; unfold kac knc; decide)) (fun e => hc (by rw [e]; unfold kac knc; decide)) (fun e => hc (by rw [e]; unfold kac knc; decide)) (fun e => hc (by rw [e]; unfold kac knc; decide)) (fun e => hc (by rw [e]; unfold kac knc; decide))) f1))
  have eN : nI N + 1 - 1 = nI N := by rw [nI_1, show (1 : Int32) = nI 1 from rfl, nI_sub (by omega)]; rfl
  refine ⟨nI N, J3, ?_, fun L n nc ns => ?_⟩
  · refine ab_C_of (by decide) rfl (Nat.le_of_ble_eq_true rfl) hT ?_
    refine r_K_lay_0 hT _ _ _ _ (Nat.le_refl _) (Nat.le_refl _) ?_
    rw [c0, c1]
    refine bb_f a1 (bb_f a2 (bb_f b1 (bb_f b2 (bb_f ne (bb_f d1 (bb_f d2 (bb_f f1' (bb_f f2' (bb_f (fun h => by have := (nI_leI (a := 24) (by omega) (by omega)).mp h; omega) ⟨_, u1, ?_⟩)))))))))
    rw [i1, nI_clamp (by omega), eN, nI_1, hI2]
    exact bb_t ((nI_ltI (b := 24) (by omega) (by omega)).mpr hN4) ⟨vp_in_nI (by omega) (by omega), _, u2, _, u3, _, u4, rfl⟩
  · obtain ⟨K1, g1, g0, m1, n1, M1, v1⟩ := b_keep (d := d + 15) (w := w) (n := n) (nc := nc) (ns := ns) (L := L) hT fJ hs
    obtain ⟨K2, r, nm2, rb, v2⟩ := z_netNow (d := d + 12) (w := w) (n := n) (nc := nc) (ns := ns) (L := L) hT m1
    have g2 := mfr_nm nm2
    have n2 : K2 mx_now = I mx_now := by rw [mfr_now g2]; exact n1
    have n20 : K2 mx_now 0 = nI N := by rw [n2]; exact z1
    obtain ⟨m3, g3, s3⟩ := mC_add (I := K2) (mC_fr g2 m1) hN4 ha hb hab hq1 hq9 hc4 od' rfl
    generalize hI3 : (ab_up (ab_up (ab_up (ab_up (ab_up (ab_up K2 mx_now (3 + N) (nI a)) mx_now (27 + N) (nI b)) mx_now (51 + N) (nI q)) mx_now (75 + N) (nI c)) mx_now 1 ((K2 mx_now 1) ||| ((1 : Int32) <<< (nI N &&& 31)))) mx_now 0 (nI (N + 1))) = I3 at m3 g3 s3
    have hh : mH (I3 mx_now) E h := by
      refine ⟨by rw [s3 2 (Or.inl rfl), n2]; exact hs.2.2.2.1.1, fun j h7 h8 q hq => ?_⟩
      rw [s3 _ (Or.inr (by omega)), n2]; exact hs.2.2.2.1.2 j h7 h8 q hq
    obtain ⟨K3, g4, hh3, s4, v3⟩ := mz_swaps (d := d + 11) (w := w) (n := n) (nc := nc) (ns := ns) (L := L) hT m3 (A := nB e1 e2 sd l) rb (nB_24 hs.1) (why := 5) (k := N) hh (by omega)
    have zI : J3 mx_now = I mx_now := kaf_ge fJ (by decide)
    have zM : J3 mx = I mx := kaf_ge fJ (by decide)
    have nx := nxE_le (A := nB e1 e2 sd l) (B := fun j => decide (j ∈ net (un e1 N a) (un e2 N b) (un sd N true) l')) (E := E)
    refine ⟨K3, ?_, RR_act (o' := o') hs ht hi fJ (maf_trans (maf_ma g4) (maf_trans (maf_ma g3) (maf_trans (maf_mf g2) g1))) k3 ?_ ?_ (mC_mar (g4.2 2 (by unfold mkf; decide)) s4 m3) hh3 ?_ (aX_told (aX_add x1) nx.1 (fun a ha => by rw [xl a ha]; omega) (fun j hj => nxH_old j hj)) (by omega)⟩
    · refine ab_C_of (by decide) rfl (Nat.le_of_ble_eq_true rfl) hT ?_
      refine r_M_lay_0 hT _ _ _ _ (Nat.le_refl _) (Nat.le_refl _) ?_
      rw [zM, z0, zI, z1]
      refine bb_f a1 (bb_f a3 (bb_f b1 (bb_f b3 (bb_f ne (bb_f d1 (bb_f d2 (bb_f f1' (bb_f f3' (bb_f' (fun h => by have := (nI_eq (b := 24) (by omega) (by omega)).mp h; omega) ⟨_, v1, _, _, v2, ?_⟩)))))))))
      rw [n20, nl_add2, nl_add2, nl_add2, nl_add2, nI_clamp (by omega), nI_clamp (by omega), nI_clamp (by omega), nI_clamp (by omega)]
      have ew : ∀ M5 : Nat → Nat → Int32, M5 = (ab_up (ab_up (ab_up (ab_up K2 mx_now (3 + N) (nI a)) mx_now (27 + N) (nI b)) mx_now (51 + N) (nI q)) mx_now (75 + N) (nI c)) → M5 mx_now 1 = K2 mx_now 1 ∧ ∀ x, (ab_up M5 mx_now 1 x) mx_now 0 = nI N := fun M5 e => by
        subst e
        refine ⟨?_, fun x => ?_⟩
        · rw [ab_up_i, pk_un (by omega), ab_up_i, pk_un (by omega), ab_up_i, pk_un (by omega), ab_up_i, pk_un (by omega)]
        · rw [ab_up_i, pk_un (by omega), ab_up_i, pk_un (by omega), ab_up_i, pk_un (by omega), ab_up_i, pk_un (by omega), ab_up_i, pk_un (by omega)]; exact n20
      obtain ⟨w1, w2⟩ := ew _ rfl
      rw [w1, w2, nI_1, hI3]
      exact ⟨vp_in_nI (by omega) (by omega), vp_in_nI (by omega) (by omega), vp_in_nI (by omega) (by omega), vp_in_nI (by omega) (by omega), _, v3, rfl⟩
    · rw [xe]
      exact cH_cong (f3 _ (by decide) (by decide) (by decide) (by decide) (by decide)) (f3 _ (by decide) (by decide) (by decide) (by decide) (by decide)) h2
    · have zz : ∀ c, c = kx_now_acts ∨ c = kx_now_acts_prices ∨ c = kx_now_acts_counts ∨ c = kx_now_acts_sounds ∨ c = kx_now_acts_swaps → J3 c = J1 c := fun c hc => by
        rcases hc with e | e | e | e | e <;> subst e <;> rw [f3 _ (by decide) (by decide) (by decide) (by decide) (by decide), r1 _ (by decide) (by decide) (by decide) (by decide) (by decide), fI2 _ (by decide) (by decide) (by decide) (by decide) (by decide) (by decide)]
      exact aK_cong (zz _ (by decide)) (zz _ (by decide)) (zz _ (by decide)) (zz _ (by decide)) (zz _ (by decide)) A1
    · refine ⟨by rw [g4.2 41 (by unfold mkf; decide), g3.2 41 (by unfold mkf; decide), g2.2 41 (by unfold mkf; decide)]; exact M1.1, M1.2.1, fun a ha j hj => ?_⟩
      rw [g4.1 _ (by unfold mscr; decide) (by decide), g3.1 _ (by unfold mscr; decide) (by decide), g2.1 _ (by unfold mscr; decide)]; exact M1.2.2 a ha j hj
end JLA
