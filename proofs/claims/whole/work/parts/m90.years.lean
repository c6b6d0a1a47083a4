/-! YEARS: what one brings -/
def nxS (x : Int32) : Int32 := x * 1103515245 + 12345
theorem nxS_def (x : Int32) : x * 1103515245 + 12345 = nxS x := rfl
def drw (x : Int32) (n : Nat) : Nat := (ab_ushr x 16 &&& 32767).toBitVec.toNat % n
theorem dr_y (x : Int32) : (ab_ushr x 16 &&& 32767) = nI (ab_ushr x 16 &&& 32767).toBitVec.toNat ∧ (ab_ushr x 16 &&& 32767).toBitVec.toNat < 2 ^ 15 := by
  constructor
  · refine b_ext fun i hi => ?_
    rw [bt_nI _ hi]; rfl
  · refine lt_tb (fun i hi => ?_)
    have hb : bt (ab_ushr x 16 &&& 32767) i = true := hi
    rw [b_and, Bool.and_eq_true] at hb
    by_cases h : i < 32
    · have : ∀ i : Fin 32, bt 32767 i.1 = true → i.1 < 15 := by decide
      exact this ⟨i, h⟩ hb.2
    · exact absurd hb.1 (by rw [b_big (by omega)]; decide)
theorem dr_n (x : Int32) {n : Nat} (h : n < 2 ^ 31) : (ab_ushr x 16 &&& 32767) - (ab_ushr x 16 &&& 32767) / nI n * nI n = nI (drw x n) := by
  obtain ⟨h1, h2⟩ := dr_y x
  unfold drw
  generalize (ab_ushr x 16 &&& 32767).toBitVec.toNat = a at *
  rw [h1]
  exact nI_rem (by omega) h
theorem dr_8 (x : Int32) : (ab_ushr x 16 &&& 32767) - (ab_ushr x 16 &&& 32767) / 8 * 8 = nI (drw x 8) := dr_n x (n := 8) (by omega)
theorem dr_41 (x : Int32) : (ab_ushr x 16 &&& 32767) - (ab_ushr x 16 &&& 32767) / 41 * 41 = nI (drw x 41) := dr_n x (n := 41) (by omega)
theorem dr_m (x : Int32) : (x >>> ((16 : Int32) &&& 31)) &&& 32767 = ab_ushr x 16 &&& 32767 := by
  refine b_ext fun i hi => ?_
  rw [b_and, b_and, show bt (x >>> ((16 : Int32) &&& 31)) i = _ from b_sshr 16 (by omega) x hi, show bt (ab_ushr x 16) i = bt x (16 + i) from b_ushr 16 (by omega) x i]
  by_cases h : 16 + i < 32
  · rw [if_pos h]
  · have : ∀ i : Fin 32, ¬ 16 + i.1 < 32 → bt 32767 i.1 = false := by decide
    rw [this ⟨i, hi⟩ h, Bool.and_false, Bool.and_false]
def yrP (p t : Nat) : Nat := max 1 (min 999 (p + t - 20))
theorem yrP_b (p t : Nat) : 1 ≤ yrP p t ∧ yrP p t ≤ 999 := by unfold yrP; omega
theorem yr_nI {p t : Nat} (hp : p ≤ 999) (ht : t ≤ 40) : ab_max32 1 (ab_min32 999 ((nI p + nI t) - 20)) = nI (yrP p t) := by
  rw [nI_add]
  unfold yrP
  by_cases h : 20 ≤ p + t
  · rw [show (20 : Int32) = nI 20 from rfl, nI_sub h, show (999 : Int32) = nI 999 from rfl, ab_min_nI (by omega) (by omega), show (1 : Int32) = nI 1 from rfl, ab_max_nI (by omega) (by omega)]
  · have : ∀ q, q < 20 → ab_max32 1 (ab_min32 999 (nI q - 20)) = 1 := by decide
    rw [this _ (by omega), show p + t - 20 = 0 by omega]; rfl
abbrev Ys : Type := Int32 × (Nat → Nat) × (Nat → Bool)
def yst (N : Nat) (s : Ys) : Ys := if N = 0 then (nxS s.1, s.2.1, s.2.2) else if 6 ≤ drw (nxS s.1) 8 then (nxS (nxS s.1), s.2.1, fun j => if j = drw (nxS (nxS s.1)) N then !s.2.2 (drw (nxS (nxS s.1)) N) else s.2.2 j) else (nxS (nxS (nxS s.1)), (fun j => if j = drw (nxS (nxS s.1)) N then yrP (s.2.1 (drw (nxS (nxS s.1)) N)) (drw (nxS (nxS (nxS s.1))) 41) else s.2.1 j), s.2.2)
def ysI (N : Nat) (s : Ys) : Nat → Ys
  | 0 => s
  | i + 1 => yst N (ysI N s i)
/-- the net of a year -/
noncomputable def yB (N : Nat) (e1 e2 : Nat → Nat) (s : Ys) : Nat → Bool := nB e1 e2 s.2.2 (lo s.2.1 N)
noncomputable def yE (N : Nat) (e1 e2 : Nat → Nat) (s : Ys) : Nat → Nat
  | 0 => 0
  | i + 1 => nxE (yB N e1 e2 (ysI N s i)) (yB N e1 e2 (ysI N s (i + 1))) (yE N e1 e2 s i)
theorem yE_le {N : Nat} {e1 e2 : Nat → Nat} {s : Ys} : ∀ i, yE N e1 e2 s i ≤ i := by
  intro i
  induction i with
  | zero => exact Nat.le_refl _
  | succ i ih => exact Nat.le_trans nxE_le.2 (by omega)
def tY (J : Nat → Nat → Int32) (S N : Nat) (e1 e2 : Nat → Nat) (s : Ys) : Prop := gr_pre J kx_trial kx_trial_first kx_trial_second kx_trial_price kx_trial_order S N e1 e2 s.2.1 (lo s.2.1 N) ∧ (∀ k, k < 32 → bt (J kx_trial 2) k = s.2.2 k) ∧ (∀ k, s.2.2 k = true → k < N) ∧ (∀ k, k < N → 1 ≤ s.2.1 k) ∧ (∀ k, k < 32 → bt (J kx_trialNet 2) k = yB N e1 e2 s k) ∧ J kx_trialNet 3 = nI ((net e1 e2 s.2.2 (lo s.2.1 N)).map s.2.1).sum ∧ J kx_trialNet 4 = nI (S - (net e1 e2 s.2.2 (lo s.2.1 N)).length)
section YRS
variable {w : ab_Wd} {d n nc ns : Nat} {I : Nat → Nat → Int32} {L : Nat → Nat → Int64}
variable {S N : Nat} {e1 e2 : Nat → Nat}
theorem tY_grow {J K : Nat → Nat → Int32} {s : Ys} (g : gr_pre J kx_trial kx_trial_first kx_trial_second kx_trial_price kx_trial_order S N e1 e2 s.2.1 (lo s.2.1 N)) (h1 : ∀ k, k < 32 → bt (J kx_trial 2) k = s.2.2 k) (h2 : ∀ k, s.2.2 k = true → k < N) (h3 : ∀ k, k < N → 1 ≤ s.2.1 k) (hK : gr_st K J kx_trialNet kx_trialNet_order kx_trialNet_piece S s.2.1 (kr e1 e2 ((lo s.2.1 N).filter s.2.2))) : tY K S N e1 e2 s := by
  refine ⟨?_, fun k hk => by rw [hK.1 kx_trial (by decide) (by decide) (by decide)]; exact h1 k hk, h2, h3, hK.2.2.1, hK.2.2.2.1, hK.2.2.2.2.1⟩
  unfold gr_pre at *
  rw [hK.1 kx_trial (by decide) (by decide) (by decide), hK.1 kx_trial_first (by decide) (by decide) (by decide), hK.1 kx_trial_second (by decide) (by decide) (by decide), hK.1 kx_trial_price (by decide) (by decide) (by decide), hK.1 kx_trial_order (by decide) (by decide) (by decide)]
  exact g
theorem k_passYear (hT : w.1.stackTraces = false) {s : Ys} (h : tY I S N e1 e2 s) : ∃ J, kfr J I ∧ tY J S N e1 e2 (yst N s) ∧ ab_PU w (d + 4) mt_K_passYear [.ref kx, .int s.1] I L n nc ns (yst N s).1 J := by
  obtain ⟨⟨p1, p2, p3, p4, p5, p6, p7, p8⟩, h1, h2, h3, h4, h5, h6⟩ := id h
  by_cases hN : N = 0
  · have e : yst N s = (nxS s.1, s.2.1, s.2.2) := if_pos hN
    rw [e]
    refine ⟨I, kfr_refl, by unfold yB at h4; unfold tY yB; exact ⟨⟨p1, p2, p3, p4, p5, p6, p7, p8⟩, h1, h2, h3, h4, h5, h6⟩, ?_⟩
    refine ab_C_of (by decide) rfl (Nat.le_of_ble_eq_true rfl) hT ?_
    refine r_K_passYear_0 hT _ (Nat.le_refl _) (Nat.le_refl _) ?_
    exact bb_t' (by rw [p2, hN]; rfl) rfl
  have hk : drw (nxS (nxS s.1)) N < N := Nat.mod_lt _ (by omega)
  have n0 : ¬ nI N = 0 := fun h => hN ((nI_eq (b := 0) (by omega) (by omega)).mp h)
  have n1 : 1 ≤ nI N := (nI_leI (a := 1) (by omega) (by omega)).mpr (by omega)
  have d8 : drw (nxS s.1) 8 < 8 := Nat.mod_lt _ (by omega)
  by_cases h8 : 6 ≤ drw (nxS s.1) 8
  · have e : yst N s = (nxS (nxS s.1), s.2.1, fun j => if j = drw (nxS (nxS s.1)) N then !s.2.2 (drw (nxS (nxS s.1)) N) else s.2.2 j) := (if_neg hN).trans (if_pos h8)
    rw [e]
    generalize hkk : drw (nxS (nxS s.1)) N = k at *
    have hx : ∀ j, j < 32 → bt ((I kx_trial 2) ^^^ ((1 : Int32) <<< (nI k &&& 31))) j = (fun j => if j = k then !s.2.2 k else s.2.2 j) j := fun j hj => by
      show _ = if j = k then !s.2.2 k else s.2.2 j
      rw [b_xor, h1 j hj, ab_sh1 (by omega) hj]
      by_cases e : j = k
      · rw [if_pos e, e, decide_eq_true rfl]; cases s.2.2 k <;> rfl
      · rw [if_neg e, decide_eq_false e]; cases s.2.2 j <;> rfl
    have gp : gr_pre (ab_up I kx_trial 2 ((I kx_trial 2) ^^^ ((1 : Int32) <<< (nI k &&& 31)))) kx_trial kx_trial_first kx_trial_second kx_trial_price kx_trial_order S N e1 e2 s.2.1 (lo s.2.1 N) := by
      refine ⟨by rw [ab_up_i, pk_un (by omega)]; exact p1, by rw [ab_up_i, pk_un (by omega)]; exact p2, p3, p4, p5, fun i hi => by rw [ab_up_o (by decide)]; exact p6 i hi, p7, fun k hk => ?_⟩
      rw [ab_up_o (by decide), ab_up_o (by decide), ab_up_o (by decide)]; exact p8 k hk
    obtain ⟨J, g1, g2⟩ := g1_ok (d := d + 1) (w := w) (n := n) (nc := nc) (ns := ns) (L := L) hT gp (am := fun j => if j = k then !s.2.2 k else s.2.2 j) (v := (I kx_trial 2) ^^^ ((1 : Int32) <<< (nI k &&& 31))) (fun j hj => hx j (by omega))
    refine ⟨J, fun c hc => ?_, tY_grow gp (fun j hj => by rw [ab_up_i, pk_us]; exact hx j hj) (fun j hj => ?_) h3 g1, ?_⟩
    · rw [g1.1 c (fun e => hc (by rw [e]; unfold kscr; decide)) (fun e => hc (by rw [e]; unfold kscr; decide)) (fun e => hc (by rw [e]; unfold kscr; decide)), ab_up_o (fun e => hc (by rw [e]; unfold kscr; decide))]
    · have hj : (if j = k then !s.2.2 k else s.2.2 j) = true := hj
      by_cases e : j = k
      · omega
      · rw [if_neg e] at hj; exact h2 j hj
    · refine ab_C_of (by decide) rfl (Nat.le_of_ble_eq_true rfl) hT ?_
      refine r_K_passYear_0 hT _ (Nat.le_refl _) (Nat.le_refl _) ?_
      simp (disch := omega) only [nxS_def, dr_8, dr_41, p2, dr_n, hkk]
      exact bb_f' n0 (bb_t n1 ⟨n0, bb_f (fun h => by have := (nI_leI (b := 5) (by omega) (by omega)).mp h; omega) ⟨_, g2, rfl⟩⟩)
  · have e : yst N s = (nxS (nxS (nxS s.1)), (fun j => if j = drw (nxS (nxS s.1)) N then yrP (s.2.1 (drw (nxS (nxS s.1)) N)) (drw (nxS (nxS (nxS s.1))) 41) else s.2.1 j), s.2.2) := (if_neg hN).trans (if_neg h8)
    rw [e]
    generalize hkk : drw (nxS (nxS s.1)) N = k at *
    have ht : drw (nxS (nxS (nxS s.1))) 41 ≤ 40 := by have : drw (nxS (nxS (nxS s.1))) 41 < 41 := Nat.mod_lt _ (by omega); omega
    have q := p8 k hk
    have yb := yrP_b (s.2.1 k) (drw (nxS (nxS (nxS s.1))) 41)
    have ev := yr_nI q.2.2.2.2.2 ht
    generalize hv : yrP (s.2.1 k) (drw (nxS (nxS (nxS s.1))) 41) = v at *
    have hp : ∀ j, j < N → (ab_up I kx_trial_price k (nI v)) kx_trial_price j = nI ((fun j => if j = k then v else s.2.1 j) j) ∧ (fun j => if j = k then v else s.2.1 j) j ≤ 999 := fun j hj => by
      show _ = nI (if j = k then v else s.2.1 j) ∧ (if j = k then v else s.2.1 j) ≤ 999
      rw [ab_up_i]
      by_cases e : j = k
      · rw [if_pos e, e, pk_us]; exact ⟨rfl, yb.2⟩
      · rw [if_neg e, pk_un e]; exact ⟨(p8 j hj).2.2.1, (p8 j hj).2.2.2.2.2⟩
    obtain ⟨g, l', g1, g2, g3, g4⟩ := s1_ok (d := d + 3) (I := ab_up I kx_trial_price k (nI v)) (w := w) (n := n) (nc := nc) (ns := ns) (L := L) hT (N := N) (by rw [ab_up_o (by decide)]; exact p2) p4 hp
    have el := lo_eq g1
    subst el
    have gp : gr_pre (ab_row (ab_up I kx_trial_price k (nI v)) kx_trial_order g) kx_trial kx_trial_first kx_trial_second kx_trial_price kx_trial_order S N e1 e2 (fun j => if j = k then v else s.2.1 j) (lo (fun j => if j = k then v else s.2.1 j) N) := by
      refine ⟨?_, ?_, p3, p4, od_len g1, fun i hi => ?_, fun j hj => (g1.2 j).mp hj, fun j hj => ?_⟩
      · rw [ab_row_ne (by decide), ab_up_o (by decide)]; exact p1
      · rw [ab_row_ne (by decide), ab_up_o (by decide)]; exact p2
      · rw [ab_row_eq]; exact g2 i hi
      · obtain ⟨q1, q2, q3, q4, q5, q6⟩ := p8 j hj
        refine ⟨?_, ?_, ?_, q4, q5, (hp j hj).2⟩
        · rw [ab_row_ne (by decide), ab_up_o (by decide)]; exact q1
        · rw [ab_row_ne (by decide), ab_up_o (by decide)]; exact q2
        · rw [ab_row_ne (by decide)]; exact (hp j hj).1
    have t2 : (ab_row (ab_up I kx_trial_price k (nI v)) kx_trial_order g) kx_trial 2 = I kx_trial 2 := by rw [ab_row_ne (by decide), ab_up_o (by decide)]
    obtain ⟨J, g5, g6⟩ := g1_ok (d := d + 1) (w := w) (n := n) (nc := nc) (ns := ns) (L := L) hT gp (am := s.2.2) (v := (ab_row (ab_up I kx_trial_price k (nI v)) kx_trial_order g) kx_trial 2) (fun j hj => by rw [t2]; exact h1 j (by omega))
    refine ⟨J, fun c hc => ?_, tY_grow (s := (nxS (nxS (nxS s.1)), (fun j => if j = k then v else s.2.1 j), s.2.2)) gp (fun j hj => by rw [t2]; exact h1 j hj) h2 (fun j hj => ?_) g5, ?_⟩
    · rw [g5.1 c (fun e => hc (by rw [e]; unfold kscr; decide)) (fun e => hc (by rw [e]; unfold kscr; decide)) (fun e => hc (by rw [e]; unfold kscr; decide)), ab_row_ne (fun e => hc (by rw [e]; unfold kscr; decide)), ab_up_o (fun e => hc (by rw [e]; unfold kscr; decide))]
    · show 1 ≤ if j = k then v else s.2.1 j
      split
      · exact yb.1
      · exact h3 j hj
    · refine ab_C_of (by decide) rfl (Nat.le_of_ble_eq_true rfl) hT ?_
      refine r_K_passYear_0 hT _ (Nat.le_refl _) (Nat.le_refl _) ?_
      simp (disch := omega) only [nxS_def, dr_8, dr_41, p2, dr_n, hkk, nI_clamp, q.2.2.1, ev]
      exact bb_f' n0 (bb_t n1 ⟨n0, bb_t ((nI_leI (b := 5) (by omega) (by omega)).mpr (by omega)) ⟨vp_in_nI (by omega) (by omega), _, g4, _, g6, rfl⟩⟩)
end YRS
