/-! THE MODEL: rings, cuts, rivals, spans -/
noncomputable def cnB (e1 e2 : Nat → Nat) (E : Nat → Prop) (x y : Nat) : Bool := @decide (cn e1 e2 E x y) (Classical.propDecidable _)
theorem cnB_iff {e1 e2 : Nat → Nat} {E : Nat → Prop} {x y : Nat} : cnB e1 e2 E x y = true ↔ cn e1 e2 E x y := by
  unfold cnB
  exact @decide_eq_true_iff _ (Classical.propDecidable _)
noncomputable def pth (e1 e2 : Nat → Nat) (T : List Nat) (x y : Nat) : Option (List Nat) := @dite _ (∃ p, pt e1 e2 T x y p) (Classical.propDecidable _) (fun h => some (Classical.choose h)) (fun _ => none)
theorem pth_some {e1 e2 : Nat → Nat} {T : List Nat} {x y : Nat} {p : List Nat} (hf : fo e1 e2 T) (h : pt e1 e2 T x y p) : pth e1 e2 T x y = some p := by
  unfold pth
  rw [dif_pos ⟨p, h⟩]
  exact congrArg some (pt_uq hf (Classical.choose_spec (⟨p, h⟩ : ∃ p, pt e1 e2 T x y p)) h)
theorem pth_none {e1 e2 : Nat → Nat} {T : List Nat} {x y : Nat} (h : ¬ cn e1 e2 (fun k => k ∈ T) x y) : pth e1 e2 T x y = none := by
  unfold pth
  rw [dif_neg (fun ⟨p, g⟩ => h (pt_cn g))]
theorem pth_pt {e1 e2 : Nat → Nat} {T : List Nat} {x y : Nat} {p : List Nat} (h : pth e1 e2 T x y = some p) : pt e1 e2 T x y p := by
  by_cases g : ∃ p, pt e1 e2 T x y p
  · unfold pth at h
    rw [dif_pos g] at h
    rw [← Option.some.inj h]
    exact Classical.choose_spec g
  · unfold pth at h
    rw [dif_neg g] at h
    cases h
/-- the span, 0 without -/
noncomputable def spn (e1 e2 pr : Nat → Nat) (T : List Nat) (x y : Nat) : Nat := match pth e1 e2 T x y with
  | some p => (p.map pr).sum
  | none => 0
def mxf (g : Nat → Nat) : Nat → Nat
  | 0 => 0
  | k + 1 => max (mxf g k) (g k)
def hbf (g : Nat → Nat) : Nat → Nat
  | 0 => 0
  | k + 1 => if g (hbf g k) < g k then k else hbf g k
def ctf (g : Nat → Nat) : Nat → Nat
  | 0 => 0
  | k + 1 => if g k < g (ctf g k) then k else ctf g k
theorem hbf_lt (g : Nat → Nat) : ∀ k, 0 < k → hbf g k < k := by
  intro k
  induction k with
  | zero => intro h; omega
  | succ k ih =>
    intro _
    rw [hbf]
    split
    · omega
    · by_cases e : k = 0
      · subst e; rw [hbf]; omega
      · have := ih (by omega); omega
theorem ctf_lt (g : Nat → Nat) : ∀ k, 0 < k → ctf g k < k := by
  intro k
  induction k with
  | zero => intro h; omega
  | succ k ih =>
    intro _
    rw [ctf]
    split
    · omega
    · by_cases e : k = 0
      · subst e; rw [ctf]; omega
      · have := ih (by omega); omega
theorem mxf_le {g : Nat → Nat} {b : Nat} : ∀ {k}, (∀ j, j < k → g j ≤ b) → mxf g k ≤ b := by
  intro k
  induction k with
  | zero => intro _; exact Nat.zero_le _
  | succ k ih => intro h; rw [mxf]; have := ih (fun j hj => h j (by omega)); have := h k (by omega); omega
/-- the cheapest of some cables -/
def chp (pr : Nat → Nat) (P : Nat → Prop) (r : Int32) : Prop := (r = -1 ∧ ∀ x, ¬ P x) ∨ ∃ c, r = nI c ∧ P c ∧ ∀ x, P x → x = c ∨ ch pr c x
theorem fo_filter {e1 e2 : Nat → Nat} (q : Nat → Bool) : ∀ {T : List Nat}, fo e1 e2 T → fo e1 e2 (T.filter q) := by
  intro T
  induction T with
  | nil => intro h; exact h
  | cons c T ih =>
    intro h
    rw [List.filter_cons]
    split
    · exact ⟨ih h.1, fun g => h.2 (cn_mono (fun k hk => (List.mem_filter.mp hk).1) g)⟩
    · exact ih h.1
noncomputable def cutb (e1 e2 : Nat → Nat) (S : Nat) (T : List Nat) (k s : Nat) : Bool := decide (k ∈ T) && decide (s < S) && cnB e1 e2 (fun j => j ∈ T ∧ j ≠ k) (e1 k) s
def rvc (e1 e2 : Nat → Nat) (S N : Nat) (sd : Nat → Bool) (T : List Nat) (k x : Nat) : Prop := x < N ∧ sd x = true ∧ x ≠ k ∧ k ∈ T ∧ ¬ cutb e1 e2 S T k (e1 x) = cutb e1 e2 S T k (e2 x)
section MSN
variable {w : ab_Wd} {d n nc ns : Nat} {I : Nat → Nat → Int32} {L : Nat → Nat → Int64}
variable {S N : Nat} {sd : Nat → Bool} {e1 e2 pr fm : Nat → Nat} {l : List Nat}
theorem z_way (hT : w.1.stackTraces = false) {T : List Nat} {am : Nat → Bool} {v : Int32} {a b : Nat} (hp : nm_pre I S N e1 e2 pr l) (hv : ∀ k, k < 32 → bt v k = am k) (hT1 : ∀ k, am k = true ↔ k ∈ T) (hTN : ∀ k ∈ T, k < N) (hf : fo e1 e2 T) (ha : a < S) (hb : b < S) :
    ∃ (J : Nat → Nat → Int32) (r : Int32), mfr J I ∧ tw_fr J I ∧ ((∃ p, pth e1 e2 T a b = some p ∧ r = nI p.length ∧ wy J N p) ∨ (pth e1 e2 T a b = none ∧ r = -1 ∧ wy J N [])) ∧ ab_PU w (d + 1) mt_M_tellWay [.ref mx, .int v, .int (nI a), .int (nI b)] I L n nc ns r J := by
  obtain ⟨J, r, h1, h2, h3⟩ := z_tellWay (w := w) (d := d) (n := n) (nc := nc) (ns := ns) (L := L) hT hp hv hT1 hTN hf ha hb
  refine ⟨J, r, mfr_tw h1, h1, ?_, h3⟩
  rcases h2 with ⟨p, g1, g2, g3, g4, g5⟩ | ⟨g1, g2, g3⟩
  · exact Or.inl ⟨p, pth_some hf g1, g2, g3, g4, g5, fun k hk => hTN k (pt_mem g1 k hk).1⟩
  · exact Or.inr ⟨pth_none g1, g2, g3, Nat.zero_le _, fun j hj => absurd hj (Nat.not_lt_zero j), fun k hk => by cases hk⟩
theorem net_bits {T : List Nat} (k : Nat) : decide (k ∈ T) = true ↔ k ∈ T.reverse := by rw [decide_eq_true_iff, List.mem_reverse]
theorem net_rfo (hp : nm_pre I S N e1 e2 pr l) (am : Nat → Bool) : fo e1 e2 (net e1 e2 am l).reverse := kr_fo _ (net_w hp am)
theorem net_rlt (hp : nm_pre I S N e1 e2 pr l) (am : Nat → Bool) : ∀ k ∈ (net e1 e2 am l).reverse, k < N := fun _ hk => (net_lt hp (List.mem_reverse.mp hk)).1
/-- the way in the net -/
theorem z_wayN (hT : w.1.stackTraces = false) {v : Int32} {a b : Nat} (hm : mC I S N sd e1 e2 pr fm l) (hv : ∀ k, k < 32 → bt v k = decide (k ∈ net e1 e2 sd l)) (ha : a < S) (hb : b < S) :
    ∃ (J : Nat → Nat → Int32) (r : Int32), mfr J I ∧ tw_fr J I ∧ ((∃ p, pth e1 e2 (net e1 e2 sd l).reverse a b = some p ∧ r = nI p.length ∧ wy J N p) ∨ (pth e1 e2 (net e1 e2 sd l).reverse a b = none ∧ r = -1 ∧ wy J N [])) ∧ ab_PU w (d + 1) mt_M_tellWay [.ref mx, .int v, .int (nI a), .int (nI b)] I L n nc ns r J :=
  z_way hT hm.1 hv net_bits (net_rlt hm.1 sd) (net_rfo hm.1 sd) ha hb
theorem z_tellRing (hT : w.1.stackTraces = false) {v : Int32} {k : Nat} (hm : mC I S N sd e1 e2 pr fm l) (hv : ∀ k, k < 32 → bt v k = decide (k ∈ net e1 e2 sd l)) (hk : k < N) :
    ∃ (J : Nat → Nat → Int32) (p : List Nat), mfr J I ∧ wy J N p ∧ (sd k = true → k ∉ net e1 e2 sd l → pth e1 e2 (net e1 e2 sd l).reverse (e1 k) (e2 k) = some p ∧ p ≠ []) ∧ (¬ (sd k = true ∧ k ∉ net e1 e2 sd l) → p = []) ∧ ab_PU w (d + 2) mt_M_tellRing [.ref mx, .int v, .int (nI k)] I L n nc ns (nI p.length) J := by
  have hN := hm.1.2.2.2.1
  have hvk := hv k (by omega)
  have hsk := hm.2.2.1 k (by omega)
  obtain ⟨q1, q2, q3, q4, q5, q6⟩ := hm.1.2.2.2.2.2 k hk
  have hne := (hm.2.2.2.2 k hk).2.2.2
  have f0 : mfr (ab_up I mx 26 0) I := mfr_upx mfr_refl (by unfold mkf; decide)
  by_cases hs : sd k = true
  · by_cases hk' : k ∈ net e1 e2 sd l
    · refine ⟨ab_up I mx 26 0, [], f0, ⟨by rw [ab_up_i, pk_us]; rfl, Nat.zero_le _, fun j hj => absurd hj (Nat.not_lt_zero j), fun k hk => by cases hk⟩, fun _ h => absurd hk' h, fun _ => rfl, ?_⟩
      refine ab_C_of (by decide) rfl (Nat.le_of_ble_eq_true rfl) hT ?_
      refine r_M_tellRing_0 hT _ _ (Nat.le_refl _) (Nat.le_refl _) ?_
      simp (disch := first | omega | decide) only [hsk, hs, hvk, hk', decide_true, decide_false, nl_add1, nl_add2, nl_mul1, nl_mul2, nl_sub1, nl_lt1, nl_lt2, nl_le1, nl_le2, nl_eq1, nl_eq2, nl_m1, nl_m2, nl_inT, nI_add, nI_mul, nI_leI, nI_ltI, nI_eq, nI_clamp, nl_bit, oI_n, oI_s, oI_m1, true_and, and_true, eq_self, Bool.false_eq_true, not_false_eq_true, not_true_eq_false, false_implies, true_implies, implies_true, forall_const, Nat.not_lt_zero, ab_row_eq, ab_row_ne, ab_up_i, ab_up_o, pk_us, pk_un, ab_row_row]
      rfl
    · obtain ⟨J, r, h1, h0, h2, h3⟩ := z_wayN (w := w) (d := d) (n := n) (nc := nc) (ns := ns) (L := L) hT (mC_fr f0 hm) hv q4 q5
      have hcn : cn e1 e2 (fun k => k ∈ (net e1 e2 sd l).reverse) (e1 k) (e2 k) := by
        have := (net_span (S := S) hm.1.2.2.2.2.1 (fun k hk => ⟨(hm.1.2.2.2.2.2 k hk).2.2.2.1, (hm.1.2.2.2.2.2 k hk).2.2.2.2.1⟩) sd (e1 k) (e2 k)).mpr (cn_edge ⟨hk, hs⟩)
        exact cn_mono (fun c hc => List.mem_reverse.mpr hc) this
      rcases h2 with ⟨p, g1, g2, g3⟩ | ⟨g1, g2, g3⟩
      · refine ⟨J, p, mfr_trans h1 f0, g3, fun _ _ => ⟨g1, fun e => hne (pt_nil (by rw [e] at g1; exact pth_pt g1))⟩, fun h => absurd ⟨hs, hk'⟩ h, ?_⟩
        subst g2
        refine ab_C_of (by decide) rfl (Nat.le_of_ble_eq_true rfl) hT ?_
        refine r_M_tellRing_0 hT _ _ (Nat.le_refl _) (Nat.le_refl _) ?_
        simp (disch := first | omega | decide) only [hsk, hs, hvk, hk', decide_true, decide_false, q1, q2, nl_add1, nl_add2, nl_mul1, nl_mul2, nl_sub1, nl_lt1, nl_lt2, nl_le1, nl_le2, nl_eq1, nl_eq2, nl_m1, nl_m2, nl_inT, nI_add, nI_mul, nI_leI, nI_ltI, nI_eq, nI_clamp, nl_bit, oI_n, oI_s, oI_m1, true_and, and_true, eq_self, Bool.false_eq_true, not_false_eq_true, not_true_eq_false, false_implies, true_implies, implies_true, forall_const, Nat.not_lt_zero, ab_row_eq, ab_row_ne, ab_up_i, ab_up_o, pk_us, pk_un, ab_row_row]
        exact ⟨_, J, h3, rfl⟩
      · obtain ⟨p, hp⟩ := pt_ex hcn
        rw [pth_some (net_rfo hm.1 sd) hp] at g1
        cases g1
  · refine ⟨ab_up I mx 26 0, [], f0, ⟨by rw [ab_up_i, pk_us]; rfl, Nat.zero_le _, fun j hj => absurd hj (Nat.not_lt_zero j), fun k hk => by cases hk⟩, fun h => absurd h hs, fun _ => rfl, ?_⟩
    refine ab_C_of (by decide) rfl (Nat.le_of_ble_eq_true rfl) hT ?_
    refine r_M_tellRing_0 hT _ _ (Nat.le_refl _) (Nat.le_refl _) ?_
    simp (disch := first | omega | decide) only [hsk, hs, nl_add1, nl_add2, nl_mul1, nl_mul2, nl_sub1, nl_lt1, nl_lt2, nl_le1, nl_le2, nl_eq1, nl_eq2, nl_m1, nl_m2, nl_inT, nI_add, nI_mul, nI_leI, nI_ltI, nI_eq, nI_clamp, nl_bit, oI_n, oI_s, oI_m1, true_and, and_true, eq_self, Bool.false_eq_true, not_false_eq_true, not_true_eq_false, false_implies, true_implies, implies_true, forall_const, Nat.not_lt_zero, ab_row_eq, ab_row_ne, ab_up_i, ab_up_o, pk_us, pk_un, ab_row_row]
    rfl
theorem z_cutOf (hT : w.1.stackTraces = false) {v : Int32} {k : Nat} (hm : mC I S N sd e1 e2 pr fm l) (hv : ∀ k, k < 32 → bt v k = decide (k ∈ net e1 e2 sd l)) (hk : k < N) :
    ∃ (J : Nat → Nat → Int32), mfr J I ∧ ab_PU w (d + 2) mt_M_cutOf [.ref mx, .int v, .int (nI k)] I L n nc ns (ab_mask S (cutb e1 e2 S (net e1 e2 sd l) k)) J := by
  have hN := hm.1.2.2.2.1
  have hS := hm.1.2.2.1
  have hvk := hv k (by omega)
  obtain ⟨q1, q2, q3, q4, q5, q6⟩ := hm.1.2.2.2.2.2 k hk
  by_cases hk' : k ∈ net e1 e2 sd l
  · have loop : ∀ m i (J : Nat → Nat → Int32), i + m = S → mfr J I → ∃ J', mfr J' I ∧ ab_E w ((d + 1) + 1) mt_M_cutOf 24 [.ref mx, .int v, .int (nI k), .int (ab_mask i (cutb e1 e2 S (net e1 e2 sd l) k)), .int (v &&& (((1 : Int32) <<< (nI k &&& 31)) ^^^ (-1))), .int (nI i)] [] (J, L, ab_RR, n, nc, ns) (.inl (some (.int (ab_mask S (cutb e1 e2 S (net e1 e2 sd l) k)))), (J', L, ab_RR, n, nc, ns)) := by
      intro m
      induction m with
      | zero =>
        intro i J hi hJ
        have e : i = S := by omega
        subst e
        refine ⟨J, hJ, ?_⟩
        refine r_M_cutOf_24 hT _ _ _ _ _ (Nat.le_refl _) (Nat.le_refl _) ?_
        refine bb_t ?_ rfl
        rw [mfr_2 hJ, hm.1.1]; exact nI_le (Nat.le_refl _) (by omega)
      | succ m ih =>
        intro i J hi hJ
        have hT1 : ∀ j, (decide (j ∈ net e1 e2 sd l) && !decide (j = k)) = true ↔ j ∈ (net e1 e2 sd l).reverse.filter (fun j => !decide (j = k)) := fun j => by simp
        have q1' : J mx_now (3 + k) = nI (e1 k) := by rw [mfr_now hJ]; exact q1
        have hS2 : J mx 2 = nI S := by rw [mfr_2 hJ]; exact hm.1.1
        obtain ⟨J2, r, h1, h0, h2, h3⟩ := z_way (w := w) (d := d) (n := n) (nc := nc) (ns := ns) (L := L) (a := e1 k) (b := i) (v := v &&& (((1 : Int32) <<< (nI k &&& 31)) ^^^ (-1))) hT (nm_fr hJ hm.1) (fun j hj => by rw [b_and, hv j hj, ab_bnot _ hj, ab_sh1 (by omega) hj]) hT1 (fun j hj => net_rlt hm.1 sd j (List.mem_filter.mp hj).1) (fo_filter _ (net_rfo hm.1 sd)) q4 (by omega)
        obtain ⟨J', g1, g2⟩ := ih (i + 1) J2 (by omega) (mfr_trans h1 hJ)
        refine ⟨J', g1, ?_⟩
        have hiS : ¬ S ≤ i := by omega
        have hcb : cutb e1 e2 S (net e1 e2 sd l) k i = true ↔ cn e1 e2 (fun j => j ∈ (net e1 e2 sd l).reverse.filter (fun j => !decide (j = k))) (e1 k) i := by
          unfold cutb
          rw [Bool.and_eq_true, Bool.and_eq_true, decide_eq_true_iff, decide_eq_true_iff, cnB_iff]
          have : ∀ j, (j ∈ net e1 e2 sd l ∧ j ≠ k) ↔ j ∈ (net e1 e2 sd l).reverse.filter (fun j => !decide (j = k)) := fun j => by simp
          rw [cn_congr this]
          exact ⟨fun h => h.2, fun h => ⟨⟨hk', by omega⟩, h⟩⟩
        refine r_M_cutOf_24 hT _ _ _ _ _ (Nat.le_refl _) (Nat.le_refl _) ?_
        simp (disch := first | omega | decide) only [hS2, hiS, q1', nl_add1, nl_add2, nl_mul1, nl_mul2, nl_sub1, nl_lt1, nl_lt2, nl_le1, nl_le2, nl_eq1, nl_eq2, nl_m1, nl_m2, nl_inT, nI_add, nI_mul, nI_leI, nI_ltI, nI_eq, nI_clamp, nl_bit, oI_n, oI_s, oI_m1, true_and, and_true, eq_self, Bool.false_eq_true, not_false_eq_true, not_true_eq_false, false_implies, true_implies, implies_true, forall_const, Nat.not_lt_zero, ab_row_eq, ab_row_ne, ab_up_i, ab_up_o, pk_us, pk_un, ab_row_row]
        refine ⟨_, _, h3, fun e => ?_, fun e => ?_⟩
        · have : ¬ cutb e1 e2 S (net e1 e2 sd l) k i = true := by
            intro h
            obtain ⟨p, hp⟩ := pt_ex (hcb.mp h)
            rcases h2 with ⟨p, g1, g2, g3⟩ | ⟨g1, g2, g3⟩
            · rw [g2] at e
              exact nI_m1 (by have := g3.2.1; omega) e
            · rw [pth_some (fo_filter _ (net_rfo hm.1 sd)) hp] at g1; cases g1
          rw [Int32.or_zero, ab_mask_not this]; exact g2
        · have : cutb e1 e2 S (net e1 e2 sd l) k i = true := by
            rw [hcb]
            rcases h2 with ⟨p, g1, g2, g3⟩ | ⟨g1, g2, g3⟩
            · exact pt_cn (pth_pt g1)
            · exact absurd g2 e
          rw [ab_mask_put (by omega) this]; exact g2
    obtain ⟨J', g1, g2⟩ := loop S 0 I (by omega) mfr_refl
    refine ⟨J', g1, ?_⟩
    refine ab_C_of (by decide) rfl (Nat.le_of_ble_eq_true rfl) hT ?_
    refine r_M_cutOf_0 hT _ _ (Nat.le_refl _) (Nat.le_refl _) ?_
    simp (disch := first | omega | decide) only [hvk, hk', decide_true, nl_add1, nl_add2, nl_mul1, nl_mul2, nl_sub1, nl_lt1, nl_lt2, nl_le1, nl_le2, nl_eq1, nl_eq2, nl_m1, nl_m2, nl_inT, nI_add, nI_mul, nI_leI, nI_ltI, nI_eq, nI_clamp, nl_bit, oI_n, oI_s, oI_m1, true_and, and_true, eq_self, Bool.false_eq_true, not_false_eq_true, not_true_eq_false, false_implies, true_implies, implies_true, forall_const, Nat.not_lt_zero, ab_row_eq, ab_row_ne, ab_up_i, ab_up_o, pk_us, pk_un, ab_row_row]
    exact g2
  · refine ⟨I, mfr_refl, ?_⟩
    have : ab_mask S (cutb e1 e2 S (net e1 e2 sd l) k) = 0 := b_ext fun i hi => by
      rw [ab_mask_bt _ _ (by omega) i hi, b_0]
      unfold cutb
      simp [hk']
    rw [this]
    refine ab_C_of (by decide) rfl (Nat.le_of_ble_eq_true rfl) hT ?_
    refine r_M_cutOf_0 hT _ _ (Nat.le_refl _) (Nat.le_refl _) ?_
    simp (disch := first | omega | decide) only [hvk, hk', decide_false, nl_add1, nl_add2, nl_mul1, nl_mul2, nl_sub1, nl_lt1, nl_lt2, nl_le1, nl_le2, nl_eq1, nl_eq2, nl_m1, nl_m2, nl_inT, nI_add, nI_mul, nI_leI, nI_ltI, nI_eq, nI_clamp, nl_bit, oI_n, oI_s, oI_m1, true_and, and_true, eq_self, Bool.false_eq_true, not_false_eq_true, not_true_eq_false, false_implies, true_implies, implies_true, forall_const, Nat.not_lt_zero, ab_row_eq, ab_row_ne, ab_up_i, ab_up_o, pk_us, pk_un, ab_row_row]
end MSN
