/-! BAR, LOSS, the nets by one PRICE -/
/-- with which a cable changes places -/
def pq (e1 e2 pr : Nat → Nat) (N : Nat) (am : Nat → Bool) (k : Nat) : Option Nat → Prop
  | none => ¬ cn e1 e2 (fun j => j < N ∧ am j = true ∧ j ≠ k) (e1 k) (e2 k)
  | some q => bn e1 e2 pr N am k q
/-- up to which price it is in -/
def brN (pr : Nat → Nat) (k : Nat) : Option Nat → Nat
  | none => 999
  | some q => if k < q then pr q else pr q - 1
theorem brN_s (pr : Nat → Nat) (k q : Nat) : brN pr k (some q) = if k < q then pr q else pr q - 1 := rfl
def brV (b : Nat) : Int32 := if b = 0 then -1 else nI b
section BAR
variable {w : ab_Wd} {d n nc ns : Nat} {I : Nat → Nat → Int32} {L : Nat → Nat → Int64}
variable {S N : Nat} {sd : Nat → Bool} {e1 e2 pr fm : Nat → Nat} {l : List Nat}
theorem kq_mem (hq : kQ I S N sd e1 e2 pr fm l) (k : Nat) : k ∈ net e1 e2 sd l ↔ inN e1 e2 pr N sd k := net_mem (S := S) hq.1.2.1 (fun k hk => ⟨(hq.1.1.2.2.2.2.2.2.2 k hk).2.2.2.1, (hq.1.1.2.2.2.2.2.2.2 k hk).2.2.2.2.1⟩) sd k
theorem brN_le (hq : kQ I S N sd e1 e2 pr fm l) {k : Nat} {o : Option Nat} (h : pq e1 e2 pr N sd k o) : brN pr k o ≤ 999 := by
  cases o with
  | none => exact Nat.le_refl _
  | some q =>
    have := (hq.1.1.2.2.2.2.2.2.2 q h.1).2.2.2.2.2
    rw [brN_s]; split <;> omega
/-- in or out, by the price -/
theorem swp_v {k v : Nat} {o : Option Nat} (hk : k < N) (hs : sd k = true) (h : pq e1 e2 pr N sd k o) (hv : v ≤ 999) (hpp : ∀ q, q < N → 1 ≤ pr q) : inN e1 e2 (fun j => if j = k then v else pr j) N sd k ↔ v ≤ brN pr k o := by
  cases o with
  | none => exact ⟨fun _ => hv, fun _ => (swp_none (j := k) hk hs h).1⟩
  | some q =>
    rw [swp_k hk hs h]
    have hqk : q ≠ k := h.2.2.1
    have := hpp q h.1
    rw [brN_s]
    unfold ch
    simp only [if_true, if_neg hqk]
    by_cases e : k < q
    · rw [if_pos e]; omega
    · rw [if_neg e]; omega
theorem swp_j {k v j : Nat} {o : Option Nat} (hk : k < N) (hs : sd k = true) (h : pq e1 e2 pr N sd k o) (hv : v ≤ 999) (hpp : ∀ q, q < N → 1 ≤ pr q) (hj : j ≠ k) : inN e1 e2 (fun j => if j = k then v else pr j) N sd j ↔ (in0 e1 e2 pr N sd k j ∧ (v ≤ brN pr k o → o ≠ some j)) := by
  have hvk := swp_v hk hs h hv hpp
  cases o with
  | none =>
    rw [(swp_none (j := j) hk hs h).2 hj]
    exact ⟨fun g => ⟨g, fun _ e => by cases e⟩, fun g => g.1⟩
  | some q =>
    rw [swp_k hk hs h] at hvk
    by_cases hc : ch (fun j => if j = k then v else pr j) k q
    · rw [swp_in hk hs h hc hj]
      exact ⟨fun g => ⟨g.1, fun _ e => g.2 (Option.some.inj e).symm⟩, fun g => ⟨g.1, fun e => g.2 (hvk.mp hc) (by rw [e])⟩⟩
    · rw [swp_out h hc hj]
      exact ⟨fun g => ⟨g, fun e => absurd (hvk.mpr e) hc⟩, fun g => g.1⟩
theorem kq_pr (hq : kQ I S N sd e1 e2 pr fm l) : ∀ q, q < N → 1 ≤ pr q := fun q h => (hq.1.2.2.2.2.2 q h).2.2.1
/-- a cable outside has its ring's dearest -/
theorem pq_out (hq : kQ I S N sd e1 e2 pr fm l) {k : Nat} (hk : k < N) (hs : sd k = true) (hn : k ∉ net e1 e2 sd l) : ∃ p q, pth e1 e2 (net e1 e2 sd l).reverse (e1 k) (e2 k) = some p ∧ wD pr (some p) = nI q ∧ q < N ∧ pq e1 e2 pr N sd k (some q) := by
  obtain ⟨p, c, a1, a2, a3, a4, a5, a6⟩ := out_ring hq hk hs hn
  refine ⟨p, c, a1, a6, a4, ?_⟩
  obtain ⟨p1, p2, e⟩ := List.append_of_mem a3.1
  have hnd := pt_nodup (kq_fo hq) (pth_pt a1)
  have split : ∀ (p1 : List Nat) (x : Nat), pt e1 e2 (net e1 e2 sd l).reverse x (e2 k) (p1 ++ c :: p2) → ∃ a b, cn e1 e2 (fun j => j ∈ p1) x a ∧ ed e1 e2 c a b ∧ cn e1 e2 (fun j => j ∈ p2) b (e2 k) := by
    intro p1
    induction p1 with
    | nil =>
      intro x h
      obtain ⟨b, h1, h2⟩ := pt_head h
      exact ⟨x, b, cn_refl, h1, pt_cnp h2⟩
    | cons z p1 ih =>
      intro x h
      obtain ⟨b, h1, h2⟩ := pt_head h
      obtain ⟨a, b', g1, g2, g3⟩ := ih b h2
      exact ⟨a, b', cn_trans (ed_cn h1 List.mem_cons_self) (cn_mono (fun j hj => List.mem_cons_of_mem _ hj) g1), g2, g3⟩
  obtain ⟨a, b, g1, g2, g3⟩ := split p1 (e1 k) (by rw [← e]; exact pth_pt a1)
  exact bn_out (p := p) (p1 := p1) (p2 := p2) (fun h => hn ((kq_mem hq k).mpr h)) e (fun j hj => (kq_mem hq j).mp (List.mem_reverse.mp (pt_mem (pth_pt a1) j hj).1)) a3 hnd g1 g2 g3
/-- a cable inside has its rival -/
theorem pq_in (hq : kQ I S N sd e1 e2 pr fm l) {k : Nat} {r : Int32} (hk : k ∈ net e1 e2 sd l) (hr : chp pr (rvc e1 e2 S N sd (net e1 e2 sd l) k) r) : ∃ o, r = oI o ∧ (∀ q, o = some q → q < N) ∧ pq e1 e2 pr N sd k o := by
  have hw := hq.1.1.2.2.2.2.2.2.2
  have hkN := kq_lt hq hk
  have hf := kq_fo hq
  have hcut := fo_cut hf (List.mem_reverse.mpr hk)
  have cb : ∀ s, s < S → (cutb e1 e2 S (net e1 e2 sd l) k s = true ↔ cn e1 e2 (fun j => j ∈ net e1 e2 sd l ∧ j ≠ k) (e1 k) s) := fun s hs => by
    unfold cutb
    rw [Bool.and_eq_true, Bool.and_eq_true, decide_eq_true_iff, decide_eq_true_iff, cnB_iff]
    exact ⟨fun h => h.2, fun h => ⟨⟨hk, hs⟩, h⟩⟩
  have hT : ∀ j, inN e1 e2 pr N sd j → j ≠ k → (cn e1 e2 (fun j => j ∈ net e1 e2 sd l ∧ j ≠ k) (e1 k) (e1 j) ↔ cn e1 e2 (fun j => j ∈ net e1 e2 sd l ∧ j ≠ k) (e1 k) (e2 j)) := fun j hj hjk => by
    have he : cn e1 e2 (fun j => j ∈ net e1 e2 sd l ∧ j ≠ k) (e1 j) (e2 j) := cn_edge ⟨(kq_mem hq j).mpr hj, hjk⟩
    exact ⟨fun h => cn_trans h he, fun h => cn_trans h (cn_symm he)⟩
  have rv : ∀ j, rvc e1 e2 S N sd (net e1 e2 sd l) k j ↔ (j < N ∧ sd j = true ∧ j ≠ k ∧ ¬ (cn e1 e2 (fun j => j ∈ net e1 e2 sd l ∧ j ≠ k) (e1 k) (e1 j) ↔ cn e1 e2 (fun j => j ∈ net e1 e2 sd l ∧ j ≠ k) (e1 k) (e2 j))) := fun j => by
    unfold rvc
    constructor
    · rintro ⟨h1, h2, h3, h4, h5⟩
      refine ⟨h1, h2, h3, fun g => h5 ?_⟩
      rw [← cb _ (hw j h1).2.2.2.1, ← cb _ (hw j h1).2.2.2.2.1] at g
      exact Bool.eq_iff_iff.mpr g
    · rintro ⟨h1, h2, h3, h5⟩
      refine ⟨h1, h2, h3, hk, fun g => h5 ?_⟩
      rw [← cb _ (hw j h1).2.2.2.1, ← cb _ (hw j h1).2.2.2.2.1, g]
  rcases hr with ⟨h1, h2⟩ | ⟨c, h1, h2, h3⟩
  · refine ⟨none, h1, (fun q e => by cases e), fun g => ?_⟩
    have hno := g (fun z => cn e1 e2 (fun j => j ∈ net e1 e2 sd l ∧ j ≠ k) (e1 k) z) (fun c hc => Classical.byContradiction fun h => h2 c ((rv c).mpr ⟨hc.1, hc.2.1, hc.2.2, h⟩)) cn_refl
    exact hcut (cn_mono (fun j hj => ⟨List.mem_reverse.mpr hj.1, hj.2⟩) hno)
  · obtain ⟨c1, c2, c3, c4⟩ := (rv c).mp h2
    refine ⟨some c, h1, (fun q e => by cases e; exact c1), ?_⟩
    exact bn_in (P := fun z => cn e1 e2 (fun j => j ∈ net e1 e2 sd l ∧ j ≠ k) (e1 k) z) ((kq_mem hq k).mp hk) c1 c2 c3 hT c4 (fun j g1 g2 g3 g4 => h3 j ((rv j).mpr ⟨g1, g2, g3, g4⟩))
theorem k_partnerOf (hT : w.1.stackTraces = false) (hq : kQ I S N sd e1 e2 pr fm l) {k : Nat} (hk : k < N) (hs : sd k = true) : ∃ o, pq e1 e2 pr N sd k o ∧ (∀ q, o = some q → q < N) ∧ (k ∉ net e1 e2 sd l → o ≠ none) ∧ ab_P w (d + 4) mt_K_partnerOf [.ref kx, .int (nI k)] I L n nc ns (oI o) := by
  obtain ⟨p1, p2, p3, p4, p5, p6, p7, p8⟩ := hq.1.1
  obtain ⟨q1, q2, q3, q4, q5, q6⟩ := p8 k hk
  have hb := kq_bits hq (k := k) (by omega)
  have hsk := hq.1.2.2.2.1 k (by omega)
  by_cases hn : k ∈ net e1 e2 sd l
  · obtain ⟨r, r1, r2⟩ := k_rivalOf (w := w) (d := d) (n := n) (nc := nc) (ns := ns) (L := L) hT hq hk
    obtain ⟨o, o1, o2, o3⟩ := pq_in hq hn r1
    refine ⟨o, o3, o2, fun h => absurd hn h, ?_⟩
    refine ab_C_of (by decide) rfl (Nat.le_of_ble_eq_true rfl) hT ?_
    refine r_K_partnerOf_0 hT _ (Nat.le_refl _) (Nat.le_refl _) ?_
    simp (disch := first | omega | decide) only [hb, hn, decide_true, nl_add1, nl_add2, nl_mul1, nl_mul2, nl_sub1, nl_lt1, nl_lt2, nl_le1, nl_le2, nl_eq1, nl_eq2, nl_m1, nl_m2, nl_inT, nI_add, nI_mul, nI_leI, nI_ltI, nI_eq, nI_clamp, nl_bit, oI_n, oI_s, oI_m1, true_and, and_true, eq_self, Bool.false_eq_true, not_false_eq_true, not_true_eq_false, false_implies, true_implies, implies_true, forall_const, Nat.not_lt_zero, ab_row_eq, ab_row_ne, ab_up_i, ab_up_o, pk_us, pk_un, ab_row_row]
    exact ⟨r, r2, by rw [o1]⟩
  · obtain ⟨p, q, a1, a2, a3, a4⟩ := pq_out hq hk hs hn
    refine ⟨some q, a4, (fun q e => by cases e; exact a3), (fun _ e => by cases e), ?_⟩
    have a7 := (kq_w hq (e1 k) (e2 k) q4 q5).2.2.2
    rw [a1, a2] at a7
    refine ab_C_of (by decide) rfl (Nat.le_of_ble_eq_true rfl) hT ?_
    refine r_K_partnerOf_0 hT _ (Nat.le_refl _) (Nat.le_refl _) ?_
    simp (disch := first | omega | decide) only [hb, hn, decide_false, hsk, hs, q1, q2, a7, nl_add1, nl_add2, nl_mul1, nl_mul2, nl_sub1, nl_lt1, nl_lt2, nl_le1, nl_le2, nl_eq1, nl_eq2, nl_m1, nl_m2, nl_inT, nI_add, nI_mul, nI_leI, nI_ltI, nI_eq, nI_clamp, nl_bit, oI_n, oI_s, oI_m1, true_and, and_true, eq_self, Bool.false_eq_true, not_false_eq_true, not_true_eq_false, false_implies, true_implies, implies_true, forall_const, Nat.not_lt_zero, ab_row_eq, ab_row_ne, ab_up_i, ab_up_o, pk_us, pk_un, ab_row_row]
theorem k_barOf (hT : w.1.stackTraces = false) (hq : kQ I S N sd e1 e2 pr fm l) {k : Nat} (hk : k < N) : (sd k = true → ∃ o, pq e1 e2 pr N sd k o ∧ ab_P w (d + 5) mt_K_barOf [.ref kx, .int (nI k)] I L n nc ns (brV (brN pr k o))) ∧ (¬ sd k = true → ab_P w (d + 5) mt_K_barOf [.ref kx, .int (nI k)] I L n nc ns (-1)) := by
  have p4 := hq.1.1.2.2.2.1
  have hsk := hq.1.2.2.2.1 k (by omega)
  constructor
  · intro hs
    obtain ⟨o, o1, o2, o3, o4⟩ := k_partnerOf (w := w) (d := d) (n := n) (nc := nc) (ns := ns) (L := L) hT hq hk hs
    refine ⟨o, o1, ?_⟩
    refine ab_C_of (by decide) rfl (Nat.le_of_ble_eq_true rfl) hT ?_
    refine r_K_barOf_0 hT _ (Nat.le_refl _) (Nat.le_refl _) ?_
    simp (disch := first | omega | decide) only [hsk, hs, nl_add1, nl_add2, nl_mul1, nl_mul2, nl_sub1, nl_lt1, nl_lt2, nl_le1, nl_le2, nl_eq1, nl_eq2, nl_m1, nl_m2, nl_inT, nI_add, nI_mul, nI_leI, nI_ltI, nI_eq, nI_clamp, nl_bit, oI_n, oI_s, oI_m1, true_and, and_true, eq_self, Bool.false_eq_true, not_false_eq_true, not_true_eq_false, false_implies, true_implies, implies_true, forall_const, Nat.not_lt_zero, ab_row_eq, ab_row_ne, ab_up_i, ab_up_o, pk_us, pk_un, ab_row_row]
    refine ⟨_, o4, ?_⟩
    cases o with
    | none =>
      refine ⟨fun h => absurd rfl h, fun _ => rfl⟩
    | some q =>
      have hqN := o2 q rfl
      have hqk : q ≠ k := o1.2.2.1
      have u3 := (hq.1.1.2.2.2.2.2.2.2 q hqN).2.2.1
      have u6 := (hq.1.1.2.2.2.2.2.2.2 q hqN).2.2.2.2.2
      have u1 := kq_pr hq q hqN
      have e9 : nI (pr q) - 1 = nI (pr q - 1) := nI_sub (b := 1) u1
      rw [brN_s]
      unfold brV
      by_cases e : k < q
      · have e' : ¬ q ≤ k := by omega
        rw [if_pos e, if_neg (by omega)]
        simp (disch := first | omega | decide) only [oI, u3, e', u1, nl_add1, nl_add2, nl_mul1, nl_mul2, nl_sub1, nl_lt1, nl_lt2, nl_le1, nl_le2, nl_eq1, nl_eq2, nl_m1, nl_m2, nl_inT, nI_add, nI_mul, nI_leI, nI_ltI, nI_eq, nI_clamp, nl_bit, oI_n, oI_s, oI_m1, true_and, and_true, eq_self, Bool.false_eq_true, not_false_eq_true, not_true_eq_false, false_implies, true_implies, implies_true, forall_const, Nat.not_lt_zero, ab_row_eq, ab_row_ne, ab_up_i, ab_up_o, pk_us, pk_un, ab_row_row]
      · have e' : q ≤ k := by omega
        rw [if_neg e]
        by_cases z : pr q - 1 = 0
        · have z' : ¬ 1 ≤ pr q - 1 := by omega
          rw [if_pos z]
          simp (disch := first | omega | decide) only [oI, u3, e', e9, z', nl_add1, nl_add2, nl_mul1, nl_mul2, nl_sub1, nl_lt1, nl_lt2, nl_le1, nl_le2, nl_eq1, nl_eq2, nl_m1, nl_m2, nl_inT, nI_add, nI_mul, nI_leI, nI_ltI, nI_eq, nI_clamp, nl_bit, oI_n, oI_s, oI_m1, true_and, and_true, eq_self, Bool.false_eq_true, not_false_eq_true, not_true_eq_false, false_implies, true_implies, implies_true, forall_const, Nat.not_lt_zero, ab_row_eq, ab_row_ne, ab_up_i, ab_up_o, pk_us, pk_un, ab_row_row]
        · have z' : 1 ≤ pr q - 1 := by omega
          rw [if_neg z]
          simp (disch := first | omega | decide) only [oI, u3, e', e9, z', nl_add1, nl_add2, nl_mul1, nl_mul2, nl_sub1, nl_lt1, nl_lt2, nl_le1, nl_le2, nl_eq1, nl_eq2, nl_m1, nl_m2, nl_inT, nI_add, nI_mul, nI_leI, nI_ltI, nI_eq, nI_clamp, nl_bit, oI_n, oI_s, oI_m1, true_and, and_true, eq_self, Bool.false_eq_true, not_false_eq_true, not_true_eq_false, false_implies, true_implies, implies_true, forall_const, Nat.not_lt_zero, ab_row_eq, ab_row_ne, ab_up_i, ab_up_o, pk_us, pk_un, ab_row_row]
  · intro hs
    refine ab_C_of (by decide) rfl (Nat.le_of_ble_eq_true rfl) hT ?_
    refine r_K_barOf_0 hT _ (Nat.le_refl _) (Nat.le_refl _) ?_
    simp (disch := first | omega | decide) only [hsk, hs, nl_add1, nl_add2, nl_mul1, nl_mul2, nl_sub1, nl_lt1, nl_lt2, nl_le1, nl_le2, nl_eq1, nl_eq2, nl_m1, nl_m2, nl_inT, nI_add, nI_mul, nI_leI, nI_ltI, nI_eq, nI_clamp, nl_bit, oI_n, oI_s, oI_m1, true_and, and_true, eq_self, Bool.false_eq_true, not_false_eq_true, not_true_eq_false, false_implies, true_implies, implies_true, forall_const, Nat.not_lt_zero, ab_row_eq, ab_row_ne, ab_up_i, ab_up_o, pk_us, pk_un, ab_row_row]
/-- the net where the cable is in, and where it is out (as bits) -/
def wiB (T : List Nat) (k : Nat) (o : Option Nat) (j : Nat) : Bool := decide (j = k) || (decide (j ∈ T) && !decide (o = some j))
def woB (T : List Nat) (k : Nat) (o : Option Nat) (j : Nat) : Bool := !decide (j = k) && (decide (j ∈ T) || decide (o = some j))
theorem k_netWith (hT : w.1.stackTraces = false) (hq : kQ I S N sd e1 e2 pr fm l) {k : Nat} (hk : k < N) (hs : sd k = true) : ∃ r, (∃ o, pq e1 e2 pr N sd k o ∧ ∀ j, j < 32 → bt r j = wiB (net e1 e2 sd l) k o j) ∧ ab_P w (d + 3) mt_K_netWith [.ref kx, .int (nI k)] I L n nc ns r := by
  obtain ⟨p1, p2, p3, p4, p5, p6, p7, p8⟩ := hq.1.1
  obtain ⟨q1, q2, q3, q4, q5, q6⟩ := p8 k hk
  have hb := kq_bits hq (k := k) (by omega)
  have hsk := hq.1.2.2.2.1 k (by omega)
  by_cases hn : k ∈ net e1 e2 sd l
  · obtain ⟨r, r1, -⟩ := k_rivalOf (w := w) (d := d) (n := n) (nc := nc) (ns := ns) (L := L) hT hq hk
    obtain ⟨o, o1, o2, o3⟩ := pq_in hq hn r1
    refine ⟨I kx_forest 2, ⟨o, o3, fun j hj => ?_⟩, ?_⟩
    · rw [kq_bits hq hj]
      unfold wiB
      by_cases e : j = k
      · simp [e, hn]
      · cases o with
        | none => simp [e]
        | some q =>
          have hqn : q ∉ net e1 e2 sd l := fun g => by
            have := (kq_mem hq q).mp g
            have h2 := (swp_j (v := pr k) hk hs o3 (p8 k hk).2.2.2.2.2 (kq_pr hq) o3.2.2.1).mp (by rw [upd_self]; exact this)
            have h3 := (swp_v (v := pr k) hk hs o3 (p8 k hk).2.2.2.2.2 (kq_pr hq)).mp (by rw [upd_self]; exact (kq_mem hq k).mp hn)
            exact h2.2 h3 rfl
          by_cases e2 : q = j
          · subst e2; simp [e, hqn]
          · simp [e, e2]
    · refine ab_C_of (by decide) rfl (Nat.le_of_ble_eq_true rfl) hT ?_
      refine r_K_netWith_0 hT _ (Nat.le_refl _) (Nat.le_refl _) ?_
      simp (disch := first | omega | decide) only [hb, hn, decide_true, nl_add1, nl_add2, nl_mul1, nl_mul2, nl_sub1, nl_lt1, nl_lt2, nl_le1, nl_le2, nl_eq1, nl_eq2, nl_m1, nl_m2, nl_inT, nI_add, nI_mul, nI_leI, nI_ltI, nI_eq, nI_clamp, nl_bit, oI_n, oI_s, oI_m1, true_and, and_true, eq_self, Bool.false_eq_true, not_false_eq_true, not_true_eq_false, false_implies, true_implies, implies_true, forall_const, Nat.not_lt_zero, ab_row_eq, ab_row_ne, ab_up_i, ab_up_o, pk_us, pk_un, ab_row_row]
  · obtain ⟨p, q, a1, a2, a3, a4⟩ := pq_out hq hk hs hn
    have a7 := (kq_w hq (e1 k) (e2 k) q4 q5).2.2.2
    rw [a1, a2] at a7
    refine ⟨((I kx_forest 2) &&& (((1 : Int32) <<< (nI q &&& 31)) ^^^ (-1))) ||| ((1 : Int32) <<< (nI k &&& 31)), ⟨some q, a4, fun j hj => ?_⟩, ?_⟩
    · rw [b_or, b_and, ab_bnot _ hj, ab_sh1 (by omega) hj, ab_sh1 (by omega) hj, kq_bits hq hj]
      unfold wiB
      by_cases e : j = k
      · simp [e]
      · by_cases e2 : j = q
        · simp [e2]
        · have e3 : ¬ q = j := fun g => e2 g.symm
          simp [e, e2, e3]
    · refine ab_C_of (by decide) rfl (Nat.le_of_ble_eq_true rfl) hT ?_
      refine r_K_netWith_0 hT _ (Nat.le_refl _) (Nat.le_refl _) ?_
      simp (disch := first | omega | decide) only [hb, hn, decide_false, hsk, hs, q1, q2, a7, nl_add1, nl_add2, nl_mul1, nl_mul2, nl_sub1, nl_lt1, nl_lt2, nl_le1, nl_le2, nl_eq1, nl_eq2, nl_m1, nl_m2, nl_inT, nI_add, nI_mul, nI_leI, nI_ltI, nI_eq, nI_clamp, nl_bit, oI_n, oI_s, oI_m1, true_and, and_true, eq_self, Bool.false_eq_true, not_false_eq_true, not_true_eq_false, false_implies, true_implies, implies_true, forall_const, Nat.not_lt_zero, ab_row_eq, ab_row_ne, ab_up_i, ab_up_o, pk_us, pk_un, ab_row_row]
theorem k_netWithout (hT : w.1.stackTraces = false) (hq : kQ I S N sd e1 e2 pr fm l) {k : Nat} (hk : k < N) (hs : sd k = true) : ∃ r, (∃ o, pq e1 e2 pr N sd k o ∧ ∀ j, j < 32 → bt r j = woB (net e1 e2 sd l) k o j) ∧ ab_P w (d + 4) mt_K_netWithout [.ref kx, .int (nI k)] I L n nc ns r := by
  have p4 := hq.1.1.2.2.2.1
  have hb := kq_bits hq (k := k) (by omega)
  by_cases hn : k ∈ net e1 e2 sd l
  · obtain ⟨r, r1, r2⟩ := k_rivalOf (w := w) (d := d) (n := n) (nc := nc) (ns := ns) (L := L) hT hq hk
    obtain ⟨o, o1, o2, o3⟩ := pq_in hq hn r1
    cases o with
    | none =>
      refine ⟨(I kx_forest 2) &&& (((1 : Int32) <<< (nI k &&& 31)) ^^^ (-1)), ⟨none, o3, fun j hj => ?_⟩, ?_⟩
      · rw [b_and, ab_bnot _ hj, ab_sh1 (by omega) hj, kq_bits hq hj]
        unfold woB
        by_cases e : j = k
        · simp [e]
        · simp [e]
      · refine ab_C_of (by decide) rfl (Nat.le_of_ble_eq_true rfl) hT ?_
        refine r_K_netWithout_0 hT _ (Nat.le_refl _) (Nat.le_refl _) ?_
        simp (disch := first | omega | decide) only [hb, hn, decide_true, nl_add1, nl_add2, nl_mul1, nl_mul2, nl_sub1, nl_lt1, nl_lt2, nl_le1, nl_le2, nl_eq1, nl_eq2, nl_m1, nl_m2, nl_inT, nI_add, nI_mul, nI_leI, nI_ltI, nI_eq, nI_clamp, nl_bit, oI_n, oI_s, oI_m1, true_and, and_true, eq_self, Bool.false_eq_true, not_false_eq_true, not_true_eq_false, false_implies, true_implies, implies_true, forall_const, Nat.not_lt_zero, ab_row_eq, ab_row_ne, ab_up_i, ab_up_o, pk_us, pk_un, ab_row_row]
        exact ⟨_, r2, fun h => absurd o1 h⟩
    | some q =>
      have hqN := o2 q rfl
      have o1' : r = nI q := o1
      refine ⟨((I kx_forest 2) &&& (((1 : Int32) <<< (nI k &&& 31)) ^^^ (-1))) ||| ((1 : Int32) <<< (nI q &&& 31)), ⟨some q, o3, fun j hj => ?_⟩, ?_⟩
      · have hqk : q ≠ k := o3.2.2.1
        rw [b_or, b_and, ab_bnot _ hj, ab_sh1 (by omega) hj, ab_sh1 (by omega) hj, kq_bits hq hj]
        unfold woB
        by_cases e : j = k
        · have : ¬ k = q := fun g => hqk g.symm
          simp [e, this]
        · by_cases e2 : j = q
          · simp [e2, hqk]
          · have e3 : ¬ q = j := fun g => e2 g.symm
            simp [e, e2, e3]
      · refine ab_C_of (by decide) rfl (Nat.le_of_ble_eq_true rfl) hT ?_
        refine r_K_netWithout_0 hT _ (Nat.le_refl _) (Nat.le_refl _) ?_
        simp (disch := first | omega | decide) only [hb, hn, decide_true, nl_add1, nl_add2, nl_mul1, nl_mul2, nl_sub1, nl_lt1, nl_lt2, nl_le1, nl_le2, nl_eq1, nl_eq2, nl_m1, nl_m2, nl_inT, nI_add, nI_mul, nI_leI, nI_ltI, nI_eq, nI_clamp, nl_bit, oI_n, oI_s, oI_m1, true_and, and_true, eq_self, Bool.false_eq_true, not_false_eq_true, not_true_eq_false, false_implies, true_implies, implies_true, forall_const, Nat.not_lt_zero, ab_row_eq, ab_row_ne, ab_up_i, ab_up_o, pk_us, pk_un, ab_row_row]
        subst o1'
        refine ⟨_, r2, fun e => absurd e (nI_m1 (by omega)), fun _ => rfl⟩
  · obtain ⟨p, q, a1, a2, a3, a4⟩ := pq_out hq hk hs hn
    refine ⟨I kx_forest 2, ⟨some q, a4, fun j hj => ?_⟩, ?_⟩
    · rw [kq_bits hq hj]
      unfold woB
      by_cases e : j = k
      · simp [e, hn]
      · have hqn : q ∈ net e1 e2 sd l := by
          have h3 : ¬ pr k ≤ brN pr k (some q) := fun g => hn ((kq_mem hq k).mpr (by
            have := (swp_v (v := pr k) hk hs a4 (hq.1.1.2.2.2.2.2.2.2 k hk).2.2.2.2.2 (kq_pr hq)).mpr g
            rwa [upd_self] at this))
          have h2 := (swp_j (v := pr k) (j := q) hk hs a4 (hq.1.1.2.2.2.2.2.2.2 k hk).2.2.2.2.2 (kq_pr hq) a4.2.2.1).mpr ⟨⟨a4.1, ⟨a4.2.1, a4.2.2.1⟩, a4.2.2.2.1⟩, fun g => absurd g h3⟩
          rw [upd_self] at h2
          exact (kq_mem hq q).mpr h2
        by_cases e2 : q = j
        · subst e2; simp [e, hqn]
        · simp [e, e2]
    · refine ab_C_of (by decide) rfl (Nat.le_of_ble_eq_true rfl) hT ?_
      refine r_K_netWithout_0 hT _ (Nat.le_refl _) (Nat.le_refl _) ?_
      simp (disch := first | omega | decide) only [hb, hn, decide_false, nl_add1, nl_add2, nl_mul1, nl_mul2, nl_sub1, nl_lt1, nl_lt2, nl_le1, nl_le2, nl_eq1, nl_eq2, nl_m1, nl_m2, nl_inT, nI_add, nI_mul, nI_leI, nI_ltI, nI_eq, nI_clamp, nl_bit, oI_n, oI_s, oI_m1, true_and, and_true, eq_self, Bool.false_eq_true, not_false_eq_true, not_true_eq_false, false_implies, true_implies, implies_true, forall_const, Nat.not_lt_zero, ab_row_eq, ab_row_ne, ab_up_i, ab_up_o, pk_us, pk_un, ab_row_row]
end BAR
