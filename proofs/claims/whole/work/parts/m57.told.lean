/-! TOLD, on both sides -/
def tlC (e1 e2 pr fm : Nat → Nat) (i : Nat) : List Nat := wdS 4 ++ dgs (e1 i) ++ wdS 5 ++ dgs (e2 i) ++ wdS 5 ++ dgs (pr i) ++ wdS 5 ++ dgs (fm i) ++ wdS 6
def tlA (S : Nat) (e1 e2 pr fm : Nat → Nat) : Nat → List Nat
  | 0 => wdS 3 ++ dgs S ++ wdS 6
  | i + 1 => tlA S e1 e2 pr fm i ++ tlC e1 e2 pr fm i
def tlB (t : List Nat) (sd : Nat → Bool) : Nat → List Nat
  | 0 => t
  | i + 1 => if sd i = true then tlB t sd i else tlB t sd i ++ (wdS 7 ++ dgs i ++ wdS 6)
section TLD
variable {w : ab_Wd} {d n nc ns : Nat} {I : Nat → Nat → Int32} {L : Nat → Nat → Int64}
variable {S N : Nat} {sd : Nat → Bool} {e1 e2 pr fm : Nat → Nat} {l : List Nat}
theorem tlA_len (hS : S ≤ 10) : ∀ i, (∀ k, k < i → e1 k < 10 ∧ e2 k < 10 ∧ pr k ≤ 999 ∧ fm k < 4) → (tlA S e1 e2 pr fm i).length ≤ 9 + 16 * i := by
  intro i
  have w3 : (wdS 3).length = 6 := rfl
  have w4 : (wdS 4).length = 6 := rfl
  have w5 : (wdS 5).length = 1 := rfl
  have w6 : (wdS 6).length = 1 := rfl
  induction i with
  | zero =>
    intro _
    have := (dgs_len S (by omega)).2.1 (by omega)
    rw [tlA, List.length_append, List.length_append, w3, w6]; omega
  | succ i ih =>
    intro h
    have h0 := ih (fun k hk => h k (by omega))
    obtain ⟨h1, h2, h3, h4⟩ := h i (by omega)
    have a1 := (dgs_len (e1 i) (by omega)).2.2 (by omega)
    have a2 := (dgs_len (e2 i) (by omega)).2.2 (by omega)
    have a3 := (dgs_len (pr i) (by omega)).1
    have a4 := (dgs_len (fm i) (by omega)).2.2 (by omega)
    rw [tlA, List.length_append]
    unfold tlC
    rw [List.length_append, List.length_append, List.length_append, List.length_append, List.length_append, List.length_append, List.length_append, List.length_append, w4, w5, w6]
    omega
theorem tlB_len {t : List Nat} : ∀ i, i ≤ 24 → (tlB t sd i).length ≤ t.length + 10 * i := by
  intro i
  have w7 : (wdS 7).length = 7 := rfl
  have w6 : (wdS 6).length = 1 := rfl
  induction i with
  | zero => intro _; exact Nat.le_refl _
  | succ i ih =>
    intro hi
    have h0 := ih (by omega)
    have a1 := (dgs_len i (by omega)).2.1 (by omega)
    rw [tlB]
    split
    · omega
    · rw [List.length_append, List.length_append, List.length_append, w7, w6]; omega
theorem kc_tfr {J : Nat → Nat → Int32} (h : tfr J I) (g : kC I S N sd e1 e2 pr fm l) : kC J S N sd e1 e2 pr fm l := kC_fr (fun c hc => h c (fun e => hc (by rw [e]; unfold kscr; decide)) (fun e => hc (by rw [e]; unfold kscr; decide))) g
theorem k_tell (hT : w.1.stackTraces = false) (hc : kC I S N sd e1 e2 pr fm l) : ∃ J, tfr J I ∧ tS J (tlB (tlA S e1 e2 pr fm N) sd N) ∧ ab_U w (d + 5) mt_Teller_tell [.ref kx_teller, .ref kx_now_cables] I L n nc ns J := by
  have p3 := hc.1.2.2.1
  have p4 := hc.1.2.2.2.1
  have bnd : ∀ k, k < N → e1 k < 10 ∧ e2 k < 10 ∧ pr k ≤ 999 ∧ fm k < 4 := fun k hk => by
    obtain ⟨q1, q2, q3, q4, q5, q6⟩ := hc.1.2.2.2.2.2.2.2 k hk
    exact ⟨by omega, by omega, q6, (hc.2.2.2.2.2 k hk).2.1⟩
  have lenA : ∀ i, i ≤ N → (tlA S e1 e2 pr fm i).length ≤ 9 + 16 * i := fun i hi => tlA_len p3 i (fun k hk => bnd k (by omega))
  have lenN := lenA N (Nat.le_refl _)
  have lenB : ∀ i, i ≤ N → (tlB (tlA S e1 e2 pr fm N) sd i).length ≤ 9 + 16 * N + 10 * i := fun i hi => by
    have := tlB_len (sd := sd) (t := tlA S e1 e2 pr fm N) i (by omega)
    omega
  have w3 : (wdS 3).length = 6 := rfl
  have w4 : (wdS 4).length = 6 := rfl
  have w5 : (wdS 5).length = 1 := rfl
  have w6 : (wdS 6).length = 1 := rfl
  have w7 : (wdS 7).length = 7 := rfl
  have last : ∀ m i (K : Nat → Nat → Int32), i + m = N → tfr K I → tS K (tlB (tlA S e1 e2 pr fm N) sd i) → ∃ J, tfr J I ∧ tS J (tlB (tlA S e1 e2 pr fm N) sd N) ∧ ab_E w ((d + 4) + 1) mt_Teller_tell 113 [.ref kx_teller, .ref kx_now_cables, .int (nI i)] [] (K, L, ab_RR, n, nc, ns) (.inl none, (J, L, ab_RR, n, nc, ns)) := by
    intro m
    induction m with
    | zero =>
      intro i K hi h1 h2
      have e : i = N := by omega
      subst e
      refine ⟨K, h1, h2, ?_⟩
      have k1 := (kc_tfr h1 hc).1.2.1
      refine r_Teller_tell_113 hT _ (Nat.le_refl _) (Nat.le_refl _) ?_
      exact bb_t (by rw [k1]; exact nI_le (Nat.le_refl _) (by omega)) rfl
    | succ m ih =>
      intro i K hi h1 h2
      have hcK := kc_tfr h1 hc
      have k1 := hcK.1.2.1
      have ks := hcK.2.2.2.1 i (by omega)
      by_cases hs : sd i = true
      · obtain ⟨J, b1, b2, b3⟩ := ih (i + 1) K (by omega) h1 (by rw [tlB, if_pos hs]; exact h2)
        refine ⟨J, b1, b2, ?_⟩
        refine r_Teller_tell_113 hT _ (Nat.le_refl _) (Nat.le_refl _) ?_
        refine bb_f (by rw [k1]; exact nI_ge (by omega) (by omega)) ?_
        rw [nl_bit (K kx_now_cables 2) (show i < 32 by omega), ks, nI_1]
        exact bb_t hs b3
      · have l0 := lenB i (by omega)
        have di := (dgs_len i (by omega)).2.1 (by omega)
        obtain ⟨K1, a1, a2, a3⟩ := k_putS (d := d) (j := 7) (w := w) (n := n) (nc := nc) (ns := ns) (L := L) hT (by omega) h2 (by omega)
        obtain ⟨K2, c1, c2, c3⟩ := k_putI (d := d + 3) (a := i) (w := w) (n := n) (nc := nc) (ns := ns) (L := L) hT (by omega) a2 (by rw [List.length_append, w7]; omega)
        obtain ⟨K3, f1, f2, f3⟩ := k_putS (d := d) (j := 6) (w := w) (n := n) (nc := nc) (ns := ns) (L := L) hT (by omega) c2 (by rw [List.length_append, List.length_append, w7]; omega)
        obtain ⟨J, b1, b2, b3⟩ := ih (i + 1) K3 (by omega) (tfr_trans f1 (tfr_trans c1 (tfr_trans a1 h1))) (by
          rw [tlB, if_neg hs, ← List.append_assoc, ← List.append_assoc]; exact f2)
        refine ⟨J, b1, b2, ?_⟩
        refine r_Teller_tell_113 hT _ (Nat.le_refl _) (Nat.le_refl _) ?_
        refine bb_f (by rw [k1]; exact nI_ge (by omega) (by omega)) ?_
        rw [nl_bit (K kx_now_cables 2) (show i < 32 by omega), ks, nI_1]
        exact bb_f hs ⟨K1, a3, K2, c3, K3, f3, b3⟩
  have first : ∀ m i (K : Nat → Nat → Int32), i + m = N → tfr K I → tS K (tlA S e1 e2 pr fm i) → ∃ J, tfr J I ∧ tS J (tlB (tlA S e1 e2 pr fm N) sd N) ∧ ab_E w ((d + 4) + 1) mt_Teller_tell 27 [.ref kx_teller, .ref kx_now_cables, .int (nI i)] [] (K, L, ab_RR, n, nc, ns) (.inl none, (J, L, ab_RR, n, nc, ns)) := by
    intro m
    induction m with
    | zero =>
      intro i K hi h1 h2
      have e : i = N := by omega
      subst e
      obtain ⟨J, b1, b2, b3⟩ := last i 0 K (by omega) h1 h2
      refine ⟨J, b1, b2, ?_⟩
      have k1 := (kc_tfr h1 hc).1.2.1
      refine r_Teller_tell_27 hT _ (Nat.le_refl _) (Nat.le_refl _) ?_
      exact bb_t (by rw [k1]; exact nI_le (Nat.le_refl _) (by omega)) b3
    | succ m ih =>
      intro i K hi h1 h2
      obtain ⟨g1, g2, g3, g4⟩ := bnd i (by omega)
      have l0 := lenA i (by omega)
      have y1 := (dgs_len (e1 i) (by omega)).2.2 (by omega)
      have y2 := (dgs_len (e2 i) (by omega)).2.2 (by omega)
      have y3 := (dgs_len (pr i) (by omega)).1
      have y4 := (dgs_len (fm i) (by omega)).2.2 (by omega)
      have k1 := (kc_tfr h1 hc).1.2.1
      obtain ⟨K1, a1, b1, c1⟩ := k_putS (d := d) (j := 4) (w := w) (n := n) (nc := nc) (ns := ns) (L := L) hT (by omega) h2 (by omega)
      have f1 := tfr_trans a1 h1
      have r1 := ((kc_tfr f1 hc).1.2.2.2.2.2.2.2 i (by omega)).1
      obtain ⟨K2, a2, b2, c2⟩ := k_putI (d := d + 3) (a := e1 i) (w := w) (n := n) (nc := nc) (ns := ns) (L := L) hT (by omega) b1 (by rw [List.length_append, w4]; omega)
      obtain ⟨K3, a3, b3, c3⟩ := k_putS (d := d) (j := 5) (w := w) (n := n) (nc := nc) (ns := ns) (L := L) hT (by omega) b2 (by rw [List.length_append, List.length_append, w4]; omega)
      have f3 := tfr_trans a3 (tfr_trans a2 f1)
      have r2 := ((kc_tfr f3 hc).1.2.2.2.2.2.2.2 i (by omega)).2.1
      obtain ⟨K4, a4, b4, c4⟩ := k_putI (d := d + 3) (a := e2 i) (w := w) (n := n) (nc := nc) (ns := ns) (L := L) hT (by omega) b3 (by rw [List.length_append, List.length_append, List.length_append, w4, w5]; omega)
      obtain ⟨K5, a5, b5, c5⟩ := k_putS (d := d) (j := 5) (w := w) (n := n) (nc := nc) (ns := ns) (L := L) hT (by omega) b4 (by rw [List.length_append, List.length_append, List.length_append, List.length_append, w4, w5]; omega)
      have f5 := tfr_trans a5 (tfr_trans a4 f3)
      have r3 := ((kc_tfr f5 hc).1.2.2.2.2.2.2.2 i (by omega)).2.2.1
      obtain ⟨K6, a6, b6, c6⟩ := k_putI (d := d + 3) (a := pr i) (w := w) (n := n) (nc := nc) (ns := ns) (L := L) hT (by omega) b5 (by rw [List.length_append, List.length_append, List.length_append, List.length_append, List.length_append, w4, w5]; omega)
      obtain ⟨K7, a7, b7, c7⟩ := k_putS (d := d) (j := 5) (w := w) (n := n) (nc := nc) (ns := ns) (L := L) hT (by omega) b6 (by rw [List.length_append, List.length_append, List.length_append, List.length_append, List.length_append, List.length_append, w4, w5]; omega)
      have f7 := tfr_trans a7 (tfr_trans a6 f5)
      have r4 := ((kc_tfr f7 hc).2.2.2.2.2 i (by omega)).1
      obtain ⟨K8, a8, b8, c8⟩ := k_putI (d := d + 3) (a := fm i) (w := w) (n := n) (nc := nc) (ns := ns) (L := L) hT (by omega) b7 (by rw [List.length_append, List.length_append, List.length_append, List.length_append, List.length_append, List.length_append, List.length_append, w4, w5]; omega)
      obtain ⟨K9, a9, b9, c9⟩ := k_putS (d := d) (j := 6) (w := w) (n := n) (nc := nc) (ns := ns) (L := L) hT (by omega) b8 (by rw [List.length_append, List.length_append, List.length_append, List.length_append, List.length_append, List.length_append, List.length_append, List.length_append, w4, w5]; omega)
      have f9 := tfr_trans a9 (tfr_trans a8 f7)
      obtain ⟨J, z1, z2, z3⟩ := ih (i + 1) K9 (by omega) f9 (by
        rw [tlA]; unfold tlC
        rw [← List.append_assoc, ← List.append_assoc, ← List.append_assoc, ← List.append_assoc, ← List.append_assoc, ← List.append_assoc, ← List.append_assoc, ← List.append_assoc]
        exact b9)
      refine ⟨J, z1, z2, ?_⟩
      rw [← r1] at c2
      rw [← r2] at c4
      rw [← r3] at c6
      rw [← r4] at c8
      refine r_Teller_tell_27 hT _ (Nat.le_refl _) (Nat.le_refl _) ?_
      refine bb_f (by rw [k1]; exact nI_ge (by omega) (by omega)) ?_
      rw [nI_clamp (by omega), nI_1]
      exact ⟨K1, c1, vp_in_nI (by omega) (by omega), K2, c2, K3, c3, K4, c4, K5, c5, K6, c6, K7, c7, K8, c8, K9, c9, z3⟩
  have t0 : tS (ab_up I kx_teller 1 0) [] := ⟨by rw [ab_up_i, pk_us]; rfl, fun j hj => absurd hj (Nat.not_lt_zero j)⟩
  have f0 : tfr (ab_up I kx_teller 1 0) I := fun c h1 h2 => by rw [ab_up_o h1]
  have ys := (dgs_len S (by omega)).2.1 (by omega)
  obtain ⟨K1, a1, b1, c1⟩ := k_putS (d := d) (j := 3) (w := w) (n := n) (nc := nc) (ns := ns) (L := L) hT (by omega) t0 (by show 0 + 7 ≤ 700; omega)
  have f1 := tfr_trans a1 f0
  have r1 := (kc_tfr f1 hc).1.1
  obtain ⟨K2, a2, b2, c2⟩ := k_putI (d := d + 3) (a := S) (w := w) (n := n) (nc := nc) (ns := ns) (L := L) hT (by omega) b1 (by show 6 + 3 ≤ 700; omega)
  obtain ⟨K3, a3, b3, c3⟩ := k_putS (d := d) (j := 6) (w := w) (n := n) (nc := nc) (ns := ns) (L := L) hT (by omega) b2 (by rw [List.length_append]; show 6 + _ + 7 ≤ 700; omega)
  obtain ⟨J, z1, z2, z3⟩ := first N 0 K3 (by omega) (tfr_trans a3 (tfr_trans a2 f1)) b3
  refine ⟨J, z1, z2, ?_⟩
  rw [← r1] at c2
  refine ab_C_of (by decide) rfl (Nat.le_of_ble_eq_true rfl) hT ?_
  refine r_Teller_tell_0 hT (Nat.le_refl _) (Nat.le_refl _) ?_
  exact ⟨K1, c1, K2, c2, K3, c3, z3⟩
end TLD
