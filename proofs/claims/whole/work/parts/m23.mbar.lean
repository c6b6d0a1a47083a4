/-! THE MODEL: BAR, what FITS -/
theorem pq_uq {e1 e2 pr : Nat → Nat} {N k : Nat} {sd : Nat → Bool} {o o' : Option Nat} (hk : k < N) (hs : sd k = true) (hpp : ∀ q, q < N → 1 ≤ pr q) (h : pq e1 e2 pr N sd k o) (h' : pq e1 e2 pr N sd k o') : o = o' := by
  have key : ∀ {o o' : Option Nat} {q : Nat}, pq e1 e2 pr N sd k o → pq e1 e2 pr N sd k o' → o = some q → o' = some q := by
    intro o o' q h h' e
    subst e
    have hq0 : in0 e1 e2 pr N sd k q := ⟨h.1, ⟨h.2.1, h.2.2.1⟩, h.2.2.2.1⟩
    refine Classical.byContradiction fun g => ?_
    have h1 := (swp_j (v := 0) (j := q) hk hs h (Nat.zero_le _) hpp h.2.2.1)
    have h2 := (swp_j (v := 0) (j := q) hk hs h' (Nat.zero_le _) hpp h.2.2.1)
    have := h1.mp (h2.mpr ⟨hq0, fun _ => g⟩)
    exact this.2 (Nat.zero_le _) rfl
  cases o with
  | some q => exact (key h h' rfl).symm
  | none =>
    cases o' with
    | none => rfl
    | some q => exact absurd (key h' h rfl) (by simp)
section MBA
variable {w : ab_Wd} {d n nc ns : Nat} {I : Nat → Nat → Int32} {L : Nat → Nat → Int64}
variable {S N : Nat} {sd : Nat → Bool} {e1 e2 pr fm : Nat → Nat} {l : List Nat}
/-- the row with another price -/
theorem mC_price (hm : mC I S N sd e1 e2 pr fm l) {k v : Nat} {l' : List Nat} (hk : k < N) (h1 : 1 ≤ v) (h9 : v ≤ 999) (hl : od (fun j => if j = k then v else pr j) N l') : mC (ab_up I mx_now (51 + k) (nI v)) S N sd e1 e2 (fun j => if j = k then v else pr j) fm l' := by
  obtain ⟨⟨p1, p2, p3, p4, p5, p6⟩, m2, m3, m4, m5⟩ := hm
  refine ⟨⟨by rw [ab_up_o (by decide)]; exact p1, by rw [ab_up_i, pk_un (by omega)]; exact p2, p3, p4, hl, fun j hj => ?_⟩, m2, by rw [ab_up_i, pk_un (by omega)]; exact m3, m4, fun j hj => ?_⟩
  · obtain ⟨q1, q2, q3, q4, q5, q6⟩ := p6 j hj
    rw [ab_up_i, pk_un (by omega), pk_un (by omega)]
    refine ⟨q1, q2, ?_, q4, q5, ?_⟩
    · by_cases e : j = k
      · rw [e, pk_us]; show nI v = nI (if k = k then v else pr k); rw [if_pos rfl]
      · rw [pk_un (by omega)]; show _ = nI (if j = k then v else pr j); rw [if_neg e]; exact q3
    · show (if j = k then v else pr j) ≤ 999
      split
      · exact h9
      · exact q6
  · obtain ⟨q1, q2, q3, q4⟩ := m5 j hj
    rw [ab_up_i, pk_un (by omega)]
    refine ⟨q1, q2, ?_, q4⟩
    show 1 ≤ (if j = k then v else pr j)
    split
    · exact h1
    · exact q3
theorem mC_mem (hm : mC I S N sd e1 e2 pr fm l) (k : Nat) : k ∈ net e1 e2 sd l ↔ inN e1 e2 pr N sd k := net_mem (S := S) hm.1.2.2.2.2.1 (fun k hk => ⟨(hm.1.2.2.2.2.2 k hk).2.2.2.1, (hm.1.2.2.2.2.2 k hk).2.2.2.2.1⟩) sd k
/-- all but one place of a row is as it was -/
def nfr (J I : Nat → Nat → Int32) (k : Nat) : Prop := ∃ v, mfr J (ab_up I mx_now (51 + k) v)
theorem nfr_back {J : Nat → Nat → Int32} {k : Nat} {x : Int32} (h : nfr J I k) (hx : x = I mx_now (51 + k)) : mfr (ab_up J mx_now (51 + k) x) I := by
  obtain ⟨v, h1, h2⟩ := h
  refine ⟨fun c hc => ?_, fun j hj => ?_⟩
  · by_cases e : c = mx_now
    · subst e
      rw [ab_up_i, h1 _ hc, ab_up_i]
      funext j
      by_cases e : j = 51 + k
      · rw [e, pk_us, hx]
      · rw [pk_un e, pk_un e]
    · rw [ab_up_o e, h1 c hc, ab_up_o e]
  · rw [ab_up_o (by decide), h2 j hj, ab_up_o (by decide)]
theorem nfr_row {J : Nat → Nat → Int32} {k : Nat} (h : nfr J I k) (v : Int32) : mfr (ab_up J mx_now (51 + k) v) (ab_up I mx_now (51 + k) v) := by
  obtain ⟨u, h1, h2⟩ := h
  refine ⟨fun c hc => ?_, fun j hj => ?_⟩
  · by_cases e : c = mx_now
    · subst e
      rw [ab_up_i, ab_up_i, h1 _ hc, ab_up_i]
      funext j
      by_cases e : j = 51 + k
      · rw [e, pk_us, pk_us]
      · rw [pk_un e, pk_un e, pk_un e]
    · rw [ab_up_o e, ab_up_o e, h1 c hc, ab_up_o e]
  · rw [ab_up_o (by decide), ab_up_o (by decide), h2 j hj, ab_up_o (by decide)]
theorem nfr_refl {k : Nat} : nfr I I k := ⟨I mx_now (51 + k), ⟨fun c _ => by
  by_cases e : c = mx_now
  · subst e
    rw [ab_up_i]
    funext j
    by_cases e : j = 51 + k
    · rw [e, pk_us]
    · rw [pk_un e]
  · rw [ab_up_o e], fun j _ => by rw [ab_up_o (by decide)]⟩⟩
theorem nfr_mfr {J K : Nat → Nat → Int32} {k : Nat} (h : mfr K J) (g : nfr J I k) : nfr K I k := by
  obtain ⟨v, g⟩ := g
  exact ⟨v, mfr_trans h g⟩
/-- the net by another price of one cable -/
theorem z_netAt (hT : w.1.stackTraces = false) (hm : mC I S N sd e1 e2 pr fm l) {J : Nat → Nat → Int32} {k v : Nat} (hJ : nfr J I k) (hk : k < N) (h1 : 1 ≤ v) (h9 : v ≤ 999) :
    ∃ (J' : Nat → Nat → Int32) (r : Int32), nfr J' I k ∧ (∀ j, j ≠ 21 → j ≠ 22 → J' mx j = J mx j) ∧ J' mx_notedCable = J mx_notedCable ∧ J' mx_notedIn = J mx_notedIn ∧ (∀ j, j < 32 → (bt r j = true ↔ inN e1 e2 (fun j => if j = k then v else pr j) N sd j)) ∧ ab_PU w (d + 3) mt_M_netNow [.ref mx] (ab_up J mx_now (51 + k) (nI v)) L n nc ns r J' := by
  obtain ⟨l', hl'⟩ := od_ex (fun j => if j = k then v else pr j) N
  have hm' := mC_fr (nfr_row hJ (nI v)) (mC_price hm hk h1 h9 hl')
  obtain ⟨J', r, a1, a2, a3⟩ := z_netNow (w := w) (d := d) (n := n) (nc := nc) (ns := ns) (L := L) hT hm'
  refine ⟨J', r, ⟨nI v, mfr_trans (mfr_nm a1) (nfr_row hJ (nI v))⟩, fun j g1 g2 => by rw [a1.2.1 j g1 g2, ab_up_o (by decide)], ?_, ?_, fun j hj => ?_, a3⟩
  · rw [a1.1 _ (by decide) (by decide) (by decide), ab_up_o (by decide)]
  · rw [a1.1 _ (by decide) (by decide) (by decide), ab_up_o (by decide)]
  · rw [a2 j hj, decide_eq_true_iff]; exact mC_mem hm' j
theorem i32_m1 {v : Nat} (h : 1 ≤ v) : nI v + (-1) = nI (v - 1) := by
  rw [i32_addm1]; exact nI_sub (b := 1) h
theorem z_barOf (hT : w.1.stackTraces = false) (hm : mC I S N sd e1 e2 pr fm l) {k : Nat} (hk : k < N) :
    (∀ o, sd k = true → pq e1 e2 pr N sd k o → brN pr k o ≤ 999 → ∃ J, mfr J I ∧ ab_PU w (d + 4) mt_M_barOf [.ref mx, .int (nI k)] I L n nc ns (brV (brN pr k o)) J) ∧ (¬ sd k = true → ab_PU w (d + 4) mt_M_barOf [.ref mx, .int (nI k)] I L n nc ns (-1) I) := by
  obtain ⟨⟨p1, p2, p3, p4, p5, p6⟩, m2, m3, m4, m5⟩ := hm
  have hm : mC I S N sd e1 e2 pr fm l := ⟨⟨p1, p2, p3, p4, p5, p6⟩, m2, m3, m4, m5⟩
  have hsk := m3 k (by omega)
  obtain ⟨q1, q2, q3, q4, q5, q6⟩ := p6 k hk
  constructor
  · intro o hs ho hB
    generalize hBv : brN pr k o = B at *
    have hin : ∀ v, v ≤ 999 → (inN e1 e2 (fun j => if j = k then v else pr j) N sd k ↔ v ≤ B) := fun v hv => by
      rw [← hBv]; exact swp_v hk hs ho hv (fun q hq => (m5 q hq).2.2.1)
    have loop : ∀ v (J : Nat → Nat → Int32), v ≤ 999 → B ≤ v → nfr J I k → ∃ J', mfr J' I ∧ ab_E w ((d + 3) + 1) mt_M_barOf 23 [.ref mx, .int (nI k), .int (nI (pr k)), .int (-1), .int (nI v)] [] (J, L, ab_RR, n, nc, ns) (.inl (some (.int (brV B))), (J', L, ab_RR, n, nc, ns)) := by
      intro v
      induction v with
      | zero =>
        intro J _ hb hJ
        have e : B = 0 := by omega
        subst e
        refine ⟨_, nfr_back hJ q3.symm, ?_⟩
        refine r_M_barOf_23 hT _ _ _ _ (Nat.le_refl _) (Nat.le_refl _) ?_
        refine bb_t (by decide) ⟨?_, ?_⟩
        · rw [nl_add2]; exact vp_in_nI (by omega) (by omega)
        · rw [nl_add2, nI_clamp (by omega)]; rfl
      | succ v ih =>
        intro J h9 hb hJ
        obtain ⟨J2, r, a1, a2, a2', a2'', a3, a4⟩ := z_netAt (w := w) (d := d) (n := n) (nc := nc) (ns := ns) (L := L) hT hm (v := v + 1) hJ hk (by omega) h9
        have hv0 : ¬ v + 1 ≤ 0 := by omega
        have e9 : nI (v + 1) + (-1) = nI v := i32_m1 (v := v + 1) (by omega)
        have b3 := a3 k (by omega)
        rw [hin (v + 1) h9] at b3
        by_cases hB : v + 1 ≤ B
        · have hr := b3.mpr hB
          have e : B = v + 1 := by omega
          refine ⟨_, nfr_back a1 q3.symm, ?_⟩
          have last : ab_E w ((d + 3) + 1) mt_M_barOf 23 [.ref mx, .int (nI k), .int (nI (pr k)), .int (nI (v + 1)), .int (nI v)] [] (J2, L, ab_RR, n, nc, ns) (.inl (some (.int (brV B))), ((ab_up J2 mx_now (51 + k) (nI (pr k))), L, ab_RR, n, nc, ns)) := by
            have fin : vp_in (51 + nI k) 399 ∧ (.inl (some (.int (brV B))), ((ab_up J2 mx_now (51 + k) (nI (pr k))), L, ab_RR, n, nc, ns)) = ((.inl (some (.int (nI (v + 1)))), ((ab_up J2 mx_now (51 + nI k).toNatClampNeg (nI (pr k))), L, ab_RR, n, nc, ns)) : ab_Re) := by
              rw [nl_add2, nI_clamp (by omega), e]
              refine ⟨vp_in_nI (by omega) (by omega), ?_⟩
              unfold brV
              rw [if_neg (by omega)]
            refine r_M_barOf_23 hT _ _ _ _ (Nat.le_refl _) (Nat.le_refl _) ?_
            exact ⟨fun _ => fin, fun _ => ⟨fun _ => fin, fun g => absurd g (nI_m1 (by omega))⟩⟩
          refine r_M_barOf_23 hT _ _ _ _ (Nat.le_refl _) (Nat.le_refl _) ?_
          simp (disch := first | omega | decide) only [hv0, e9, nl_add1, nl_add2, nl_mul1, nl_mul2, nl_sub1, nl_lt1, nl_lt2, nl_le1, nl_le2, nl_eq1, nl_eq2, nl_m1, nl_m2, nl_inT, nI_add, nI_mul, nI_leI, nI_ltI, nI_eq, nI_clamp, nl_bit, oI_n, oI_s, oI_m1, true_and, and_true, eq_self, Bool.false_eq_true, not_false_eq_true, not_true_eq_false, false_implies, true_implies, implies_true, forall_const, Nat.not_lt_zero, ab_row_eq, ab_row_ne, ab_up_i, ab_up_o, pk_us, pk_un, ab_row_row]
          exact ⟨r, J2, a4, fun _ => last, fun g => absurd hr g⟩
        · have hr : ¬ bt r k = true := fun g => hB (b3.mp g)
          obtain ⟨J', g1, g2⟩ := ih J2 (by omega) (by omega) a1
          refine ⟨J', g1, ?_⟩
          refine r_M_barOf_23 hT _ _ _ _ (Nat.le_refl _) (Nat.le_refl _) ?_
          simp (disch := first | omega | decide) only [hv0, e9, nl_add1, nl_add2, nl_mul1, nl_mul2, nl_sub1, nl_lt1, nl_lt2, nl_le1, nl_le2, nl_eq1, nl_eq2, nl_m1, nl_m2, nl_inT, nI_add, nI_mul, nI_leI, nI_ltI, nI_eq, nI_clamp, nl_bit, oI_n, oI_s, oI_m1, true_and, and_true, eq_self, Bool.false_eq_true, not_false_eq_true, not_true_eq_false, false_implies, true_implies, implies_true, forall_const, Nat.not_lt_zero, ab_row_eq, ab_row_ne, ab_up_i, ab_up_o, pk_us, pk_un, ab_row_row]
          exact ⟨r, J2, a4, fun g => absurd g hr, fun _ => g2⟩
    obtain ⟨J', g1, g2⟩ := loop 999 I (Nat.le_refl _) hB nfr_refl
    refine ⟨J', g1, ?_⟩
    refine ab_C_of (by decide) rfl (Nat.le_of_ble_eq_true rfl) hT ?_
    refine r_M_barOf_0 hT _ (Nat.le_refl _) (Nat.le_refl _) ?_
    simp (disch := first | omega | decide) only [hsk, hs, q3, nl_add1, nl_add2, nl_mul1, nl_mul2, nl_sub1, nl_lt1, nl_lt2, nl_le1, nl_le2, nl_eq1, nl_eq2, nl_m1, nl_m2, nl_inT, nI_add, nI_mul, nI_leI, nI_ltI, nI_eq, nI_clamp, nl_bit, oI_n, oI_s, oI_m1, true_and, and_true, eq_self, Bool.false_eq_true, not_false_eq_true, not_true_eq_false, false_implies, true_implies, implies_true, forall_const, Nat.not_lt_zero, ab_row_eq, ab_row_ne, ab_up_i, ab_up_o, pk_us, pk_un, ab_row_row]
    exact g2
  · intro hs
    refine ab_C_of (by decide) rfl (Nat.le_of_ble_eq_true rfl) hT ?_
    refine r_M_barOf_0 hT _ (Nat.le_refl _) (Nat.le_refl _) ?_
    simp (disch := first | omega | decide) only [hsk, hs, nl_add1, nl_add2, nl_mul1, nl_mul2, nl_sub1, nl_lt1, nl_lt2, nl_le1, nl_le2, nl_eq1, nl_eq2, nl_m1, nl_m2, nl_inT, nI_add, nI_mul, nI_leI, nI_ltI, nI_eq, nI_clamp, nl_bit, oI_n, oI_s, oI_m1, true_and, and_true, eq_self, Bool.false_eq_true, not_false_eq_true, not_true_eq_false, false_implies, true_implies, implies_true, forall_const, Nat.not_lt_zero, ab_row_eq, ab_row_ne, ab_up_i, ab_up_o, pk_us, pk_un, ab_row_row]
/-- whether a net is as noted -/
def ntB (I : Nat → Nat → Int32) (m : Nat) (r : Int32) : Bool := (List.range m).all fun i => decide (((r >>> (I mx_notedCable i &&& 31)) &&& 1) = I mx_notedIn i)
theorem ntB_succ {m : Nat} {r : Int32} : ntB I (m + 1) r = (ntB I m r && decide (((r >>> (I mx_notedCable m &&& 31)) &&& 1) = I mx_notedIn m)) := by
  unfold ntB
  rw [List.range_succ, List.all_append]; simp
theorem z_isAsNoted (hT : w.1.stackTraces = false) {m : Nat} {r : Int32} (h43 : I mx 43 = nI m) (h8 : m ≤ 8) : ab_P w d mt_M_isAsNoted [.ref mx, .int r] I L n nc ns (if ntB I m r = true then 1 else 0) := by
  refine ab_C_of (by decide) rfl (Nat.le_of_ble_eq_true rfl) hT ?_
  refine r_M_isAsNoted_0 hT _ (Nat.le_refl _) (Nat.le_refl _) ?_
  have := up_ind (N := m) (E := fun i => ab_E w d mt_M_isAsNoted 4 [.ref mx, .int r, .int (if ntB I i r = true then 1 else 0), .int (nI i)] [] (I, L, ab_RR, n, nc, ns) (.inl (some (.int (if ntB I m r = true then 1 else 0))), (I, L, ab_RR, n, nc, ns))) ?_ ?_ 0 (Nat.zero_le _)
  · exact this
  · refine r_M_isAsNoted_4 hT _ _ _ (Nat.le_refl _) (Nat.le_refl _) ?_
    refine bb_t (by rw [h43]; exact nI_le (Nat.le_refl _) (by omega)) ?_
    cases ntB I m r with
    | true => exact ⟨ab_nb1, rfl⟩
    | false => exact ⟨ab_nb0, rfl⟩
  · intro i hi nx
    rw [ntB_succ] at nx
    have hiN : ¬ m ≤ i := by omega
    refine r_M_isAsNoted_4 hT _ _ _ (Nat.le_refl _) (Nat.le_refl _) ?_
    cases hb : ntB I i r with
    | true =>
      simp (disch := first | omega | decide) only [h43, hiN, if_true, nl_add1, nl_add2, nl_mul1, nl_mul2, nl_sub1, nl_lt1, nl_lt2, nl_le1, nl_le2, nl_eq1, nl_eq2, nl_m1, nl_m2, nl_inT, nI_add, nI_mul, nI_leI, nI_ltI, nI_eq, nI_clamp, nl_bit, oI_n, oI_s, oI_m1, true_and, and_true, eq_self, Bool.false_eq_true, not_false_eq_true, not_true_eq_false, false_implies, true_implies, implies_true, forall_const, Nat.not_lt_zero, ab_row_eq, ab_row_ne, ab_up_i, ab_up_o, pk_us, pk_un, ab_row_row]
      refine ⟨fun e => absurd e (by decide), fun _ => ⟨fun e => ?_, fun e => ?_⟩⟩
      · rw [hb, decide_eq_false e] at nx; exact nx
      · rw [hb, decide_eq_true e] at nx; exact nx
    | false =>
      simp (disch := first | omega | decide) only [h43, hiN, nl_add1, nl_add2, nl_mul1, nl_mul2, nl_sub1, nl_lt1, nl_lt2, nl_le1, nl_le2, nl_eq1, nl_eq2, nl_m1, nl_m2, nl_inT, nI_add, nI_mul, nI_leI, nI_ltI, nI_eq, nI_clamp, nl_bit, oI_n, oI_s, oI_m1, true_and, and_true, eq_self, Bool.false_eq_true, not_false_eq_true, not_true_eq_false, false_implies, true_implies, implies_true, forall_const, Nat.not_lt_zero, ab_row_eq, ab_row_ne, ab_up_i, ab_up_o, pk_us, pk_un, ab_row_row]
      refine ⟨fun _ => ?_, fun e => absurd rfl e⟩
      rw [hb] at nx; exact nx
/-- what tellFits tells, having gone from 999 down to v -/
def ftM (B v : Nat) (p q : Bool) : Nat := (if q then 999 - max v B else 0) + (if p then B - v else 0)
def ftL (B v : Nat) (p q : Bool) : Int32 := if p = true ∧ v < B then nI (v + 1) else if q = true ∧ max v B < 999 then nI (max v B + 1) else -1
def ftA (B v : Nat) (p q : Bool) (x y : Int32) : Int32 := (if q = true ∧ max v B < 999 then y else -1) &&& (if p = true ∧ v < B then x else -1)
def ftO (B v : Nat) (p q : Bool) (x y : Int32) : Int32 := (if q = true ∧ max v B < 999 then y else 0) ||| (if p = true ∧ v < B then x else 0)
theorem z_tellFits (hT : w.1.stackTraces = false) (hm : mC I S N sd e1 e2 pr fm l) {k m : Nat} {o : Option Nat} {x y : Int32} (hk : k < N) (hs : sd k = true) (ho : pq e1 e2 pr N sd k o) (hB : brN pr k o ≤ 999) (h43 : I mx 43 = nI m) (h8 : m ≤ 8)
    (hx : ∀ v, 1 ≤ v → v ≤ brN pr k o → ∀ j, j < 32 → (bt x j = true ↔ inN e1 e2 (fun j => if j = k then v else pr j) N sd j)) (hy : ∀ v, brN pr k o < v → v ≤ 999 → ∀ j, j < 32 → (bt y j = true ↔ inN e1 e2 (fun j => if j = k then v else pr j) N sd j)) :
    ∃ J, mfr J I ∧ J mx 46 = nI (ftM (brN pr k o) 0 (ntB I m x) (ntB I m y)) ∧ J mx 47 = ftL (brN pr k o) 0 (ntB I m x) (ntB I m y) ∧ J mx 48 = ftA (brN pr k o) 0 (ntB I m x) (ntB I m y) x y ∧ J mx 49 = ftO (brN pr k o) 0 (ntB I m x) (ntB I m y) x y ∧ ab_U w (d + 4) mt_M_tellFits [.ref mx, .int (nI k)] I L n nc ns J := by
  have p4 := hm.1.2.2.2.1
  have q3 := (hm.1.2.2.2.2.2 k hk).2.2.1
  generalize brN pr k o = B at *
  generalize hp : ntB I m x = p
  generalize hq : ntB I m y = q
  have nt : ∀ (J : Nat → Nat → Int32), J mx_notedCable = I mx_notedCable → J mx_notedIn = I mx_notedIn → ∀ r, ntB J m r = ntB I m r := fun J h1 h2 r => by unfold ntB; rw [h1, h2]
  have loop : ∀ v (J : Nat → Nat → Int32), v ≤ 999 → nfr J I k → J mx 43 = nI m → J mx_notedCable = I mx_notedCable → J mx_notedIn = I mx_notedIn → J mx 46 = nI (ftM B v p q) → J mx 47 = ftL B v p q → J mx 48 = ftA B v p q x y → J mx 49 = ftO B v p q x y →
      ∃ J', mfr J' I ∧ J' mx 46 = nI (ftM B 0 p q) ∧ J' mx 47 = ftL B 0 p q ∧ J' mx 48 = ftA B 0 p q x y ∧ J' mx 49 = ftO B 0 p q x y ∧ ab_E w ((d + 3) + 1) mt_M_tellFits 30 [.ref mx, .int (nI k), .int (nI (pr k)), .int (nI v), .null] [] (J, L, ab_RR, n, nc, ns) (.inl none, (J', L, ab_RR, n, nc, ns)) := by
    intro v
    induction v with
    | zero =>
      intro J _ hJ j43 jc ji j46 j47 j48 j49
      refine ⟨_, nfr_back hJ q3.symm, by rw [ab_up_o (by decide)]; exact j46, by rw [ab_up_o (by decide)]; exact j47, by rw [ab_up_o (by decide)]; exact j48, by rw [ab_up_o (by decide)]; exact j49, ?_⟩
      refine r_M_tellFits_30 hT _ _ _ (Nat.le_refl _) (Nat.le_refl _) ?_
      refine bb_t (by decide) ⟨?_, ?_⟩
      · rw [nl_add2]; exact vp_in_nI (by omega) (by omega)
      · rw [nl_add2, nI_clamp (by omega)]
    | succ v ih =>
      intro J h9 hJ j43 jc ji j46 j47 j48 j49
      obtain ⟨J2, r, a1, a2, a5, a6, a3, a4⟩ := z_netAt (w := w) (d := d) (n := n) (nc := nc) (ns := ns) (L := L) hT hm (v := v + 1) hJ hk (by omega) h9
      have n1 := z_isAsNoted (w := w) (d := d + 3) (n := n) (nc := nc) (ns := ns) (L := L) (I := J2) (r := r) hT (by rw [a2 43 (by omega) (by omega)]; exact j43) h8
      rw [nt J2 (a5.trans jc) (a6.trans ji)] at n1
      have hv0 : ¬ v + 1 ≤ 0 := by omega
      have e9 : nI (v + 1) + (-1) = nI v := i32_m1 (v := v + 1) (by omega)
      have k46 := (a2 46 (by omega) (by omega)).trans j46
      have k47 := (a2 47 (by omega) (by omega)).trans j47
      have k48 := (a2 48 (by omega) (by omega)).trans j48
      have k49 := (a2 49 (by omega) (by omega)).trans j49
      have k43 := (a2 43 (by omega) (by omega)).trans j43
      by_cases hvB : v + 1 ≤ B
      · have er : r = x := b_ext fun j hj => Bool.eq_iff_iff.mpr ((a3 j hj).trans (hx (v + 1) (by omega) hvB j hj).symm)
        have e' : ntB I m r = p := by rw [er, hp]
        rw [e'] at n1
        by_cases hpb : p = true
        ·
          obtain ⟨J', g0, g1, g2, g3, g4, g5⟩ := ih (ab_up (ab_up (ab_up (ab_up J2 mx 46 (J2 mx 46 + 1)) mx 47 (nI (v + 1))) mx 48 (J2 mx 48 &&& r)) mx 49 (J2 mx 49 ||| r)) (by omega) (nfr_mfr (mfr_upx (mfr_upx (mfr_upx (mfr_upx mfr_refl (by unfold mkf; decide)) (by unfold mkf; decide)) (by unfold mkf; decide)) (by unfold mkf; decide)) a1) (by rw [ab_up_i, pk_un (by omega), ab_up_i, pk_un (by omega), ab_up_i, pk_un (by omega), ab_up_i, pk_un (by omega)]; exact k43) (by rw [ab_up_o (by decide), ab_up_o (by decide), ab_up_o (by decide), ab_up_o (by decide)]; exact a5.trans jc) (by rw [ab_up_o (by decide), ab_up_o (by decide), ab_up_o (by decide), ab_up_o (by decide)]; exact a6.trans ji)
            (by
              rw [ab_up_i, pk_un (by omega), ab_up_i, pk_un (by omega), ab_up_i, pk_un (by omega), ab_up_i, pk_us, k46, nI_1]
              refine congrArg nI ?_
              unfold ftM
              rw [hpb]
              have e1 : max (v + 1) B = B := Nat.max_eq_right hvB
              have e2 : max v B = B := Nat.max_eq_right (by omega)
              rw [e1, e2]
              simp only [if_true]
              omega)
            (by
              rw [ab_up_i, pk_un (by omega), ab_up_i, pk_un (by omega), ab_up_i, pk_us]
              unfold ftL
              rw [if_pos ⟨hpb, by omega⟩])
            (by
              rw [ab_up_i, pk_un (by omega), ab_up_i, pk_us, k48, er]
              unfold ftA
              have e1 : max (v + 1) B = B := Nat.max_eq_right hvB
              have e2 : max v B = B := Nat.max_eq_right (by omega)
              rw [e1, e2, if_pos (show p = true ∧ v < B from ⟨hpb, by omega⟩)]
              by_cases e : p = true ∧ v + 1 < B
              · rw [if_pos e, Int32.and_assoc, Int32.and_self]
              · rw [if_neg e, Int32.and_assoc]
                refine congrArg _ ?_
                refine b_ext fun i hi => ?_
                rw [b_and, b_m1 i hi, Bool.true_and])
            (by
              rw [ab_up_i, pk_us, k49, er]
              unfold ftO
              have e1 : max (v + 1) B = B := Nat.max_eq_right hvB
              have e2 : max v B = B := Nat.max_eq_right (by omega)
              rw [e1, e2, if_pos (show p = true ∧ v < B from ⟨hpb, by omega⟩)]
              by_cases e : p = true ∧ v + 1 < B
              · rw [if_pos e, Int32.or_assoc, Int32.or_self]
              · rw [if_neg e, Int32.or_zero])
          refine ⟨J', g0, g1, g2, g3, g4, ?_⟩
          rw [hpb] at n1
          refine r_M_tellFits_30 hT _ _ _ (Nat.le_refl _) (Nat.le_refl _) ?_
          simp (disch := first | omega | decide) only [hv0, e9, nl_add1, nl_add2, nl_mul1, nl_mul2, nl_sub1, nl_lt1, nl_lt2, nl_le1, nl_le2, nl_eq1, nl_eq2, nl_m1, nl_m2, nl_inT, nI_add, nI_mul, nI_leI, nI_ltI, nI_eq, nI_clamp, nl_bit, oI_n, oI_s, oI_m1, true_and, and_true, eq_self, Bool.false_eq_true, not_false_eq_true, not_true_eq_false, false_implies, true_implies, implies_true, forall_const, Nat.not_lt_zero, ab_row_eq, ab_row_ne, ab_up_i, ab_up_o, pk_us, pk_un, ab_row_row]
          exact ⟨r, J2, a4, _, n1, fun _ => g5, fun e => absurd e (by decide)⟩
        ·
          have hpb : p = false := by simpa using hpb
          have e1 : max (v + 1) B = B := Nat.max_eq_right hvB
          have e2 : max v B = B := Nat.max_eq_right (by omega)
          obtain ⟨J', g0, g1, g2, g3, g4, g5⟩ := ih J2 (by omega) a1 k43 (a5.trans jc) (a6.trans ji)
            (by rw [k46]; unfold ftM; rw [e1, e2, hpb]; rfl)
            (by rw [k47]; unfold ftL; rw [e1, e2, hpb]; simp)
            (by rw [k48]; unfold ftA; rw [e1, e2, hpb]; simp)
            (by rw [k49]; unfold ftO; rw [e1, e2, hpb]; simp)
          refine ⟨J', g0, g1, g2, g3, g4, ?_⟩
          rw [hpb] at n1
          refine r_M_tellFits_30 hT _ _ _ (Nat.le_refl _) (Nat.le_refl _) ?_
          simp (disch := first | omega | decide) only [hv0, e9, nl_add1, nl_add2, nl_mul1, nl_mul2, nl_sub1, nl_lt1, nl_lt2, nl_le1, nl_le2, nl_eq1, nl_eq2, nl_m1, nl_m2, nl_inT, nI_add, nI_mul, nI_leI, nI_ltI, nI_eq, nI_clamp, nl_bit, oI_n, oI_s, oI_m1, true_and, and_true, eq_self, Bool.false_eq_true, not_false_eq_true, not_true_eq_false, false_implies, true_implies, implies_true, forall_const, Nat.not_lt_zero, ab_row_eq, ab_row_ne, ab_up_i, ab_up_o, pk_us, pk_un, ab_row_row]
          exact ⟨r, J2, a4, _, n1, fun e => absurd rfl e, fun _ => g5⟩
      · have er : r = y := b_ext fun j hj => Bool.eq_iff_iff.mpr ((a3 j hj).trans (hy (v + 1) (by omega) h9 j hj).symm)
        have e' : ntB I m r = q := by rw [er, hq]
        rw [e'] at n1
        have e1 : max (v + 1) B = v + 1 := Nat.max_eq_left (by omega)
        have e2 : max v B = v := Nat.max_eq_left (by omega)
        have c1 : ¬ (v + 1 < B) := by omega
        have c2 : ¬ (v < B) := by omega
        by_cases hqb : q = true
        ·
          obtain ⟨J', g0, g1, g2, g3, g4, g5⟩ := ih (ab_up (ab_up (ab_up (ab_up J2 mx 46 (J2 mx 46 + 1)) mx 47 (nI (v + 1))) mx 48 (J2 mx 48 &&& r)) mx 49 (J2 mx 49 ||| r)) (by omega) (nfr_mfr (mfr_upx (mfr_upx (mfr_upx (mfr_upx mfr_refl (by unfold mkf; decide)) (by unfold mkf; decide)) (by unfold mkf; decide)) (by unfold mkf; decide)) a1) (by rw [ab_up_i, pk_un (by omega), ab_up_i, pk_un (by omega), ab_up_i, pk_un (by omega), ab_up_i, pk_un (by omega)]; exact k43) (by rw [ab_up_o (by decide), ab_up_o (by decide), ab_up_o (by decide), ab_up_o (by decide)]; exact a5.trans jc) (by rw [ab_up_o (by decide), ab_up_o (by decide), ab_up_o (by decide), ab_up_o (by decide)]; exact a6.trans ji)
            (by
              rw [ab_up_i, pk_un (by omega), ab_up_i, pk_un (by omega), ab_up_i, pk_un (by omega), ab_up_i, pk_us, k46, nI_1]
              refine congrArg nI ?_
              unfold ftM
              rw [hqb, e1, e2]
              simp only [if_true]
              split <;> omega)
            (by
              rw [ab_up_i, pk_un (by omega), ab_up_i, pk_un (by omega), ab_up_i, pk_us]
              unfold ftL
              rw [e2, if_neg (fun h => c2 h.2), if_pos ⟨hqb, by omega⟩])
            (by
              rw [ab_up_i, pk_un (by omega), ab_up_i, pk_us, k48, er]
              unfold ftA
              rw [e1, e2, if_neg (fun h : p = true ∧ v < B => c2 h.2), if_neg (fun h : p = true ∧ v + 1 < B => c1 h.2), if_pos (show q = true ∧ v < 999 from ⟨hqb, by omega⟩)]
              have m1 : ∀ z : Int32, z &&& -1 = z := fun z => b_ext fun i hi => by rw [b_and, b_m1 i hi, Bool.and_true]
              rw [m1, m1]
              by_cases e : q = true ∧ v + 1 < 999
              · rw [if_pos e, Int32.and_self]
              · rw [if_neg e]
                refine b_ext fun i hi => ?_
                rw [b_and, b_m1 i hi, Bool.true_and])
            (by
              rw [ab_up_i, pk_us, k49, er]
              unfold ftO
              rw [e1, e2, if_neg (fun h : p = true ∧ v < B => c2 h.2), if_neg (fun h : p = true ∧ v + 1 < B => c1 h.2), if_pos (show q = true ∧ v < 999 from ⟨hqb, by omega⟩), Int32.or_zero, Int32.or_zero]
              by_cases e : q = true ∧ v + 1 < 999
              · rw [if_pos e, Int32.or_self]
              · rw [if_neg e]
                refine b_ext fun i hi => ?_
                rw [b_or, b_0, Bool.false_or])
          refine ⟨J', g0, g1, g2, g3, g4, ?_⟩
          rw [hqb] at n1
          refine r_M_tellFits_30 hT _ _ _ (Nat.le_refl _) (Nat.le_refl _) ?_
          simp (disch := first | omega | decide) only [hv0, e9, nl_add1, nl_add2, nl_mul1, nl_mul2, nl_sub1, nl_lt1, nl_lt2, nl_le1, nl_le2, nl_eq1, nl_eq2, nl_m1, nl_m2, nl_inT, nI_add, nI_mul, nI_leI, nI_ltI, nI_eq, nI_clamp, nl_bit, oI_n, oI_s, oI_m1, true_and, and_true, eq_self, Bool.false_eq_true, not_false_eq_true, not_true_eq_false, false_implies, true_implies, implies_true, forall_const, Nat.not_lt_zero, ab_row_eq, ab_row_ne, ab_up_i, ab_up_o, pk_us, pk_un, ab_row_row]
          exact ⟨r, J2, a4, _, n1, fun _ => g5, fun e => absurd e (by decide)⟩
        ·
          have hqb : q = false := by simpa using hqb
          obtain ⟨J', g0, g1, g2, g3, g4, g5⟩ := ih J2 (by omega) a1 k43 (a5.trans jc) (a6.trans ji)
            (by
              rw [k46]
              refine congrArg nI ?_
              unfold ftM
              rw [e1, e2, hqb]
              simp only [Bool.false_eq_true, if_false]
              split <;> omega)
            (by rw [k47]; unfold ftL; rw [e1, e2, hqb]; simp [c1, c2])
            (by rw [k48]; unfold ftA; rw [e1, e2, hqb]; simp [c1, c2])
            (by rw [k49]; unfold ftO; rw [e1, e2, hqb]; simp [c1, c2])
          refine ⟨J', g0, g1, g2, g3, g4, ?_⟩
          rw [hqb] at n1
          refine r_M_tellFits_30 hT _ _ _ (Nat.le_refl _) (Nat.le_refl _) ?_
          simp (disch := first | omega | decide) only [hv0, e9, nl_add1, nl_add2, nl_mul1, nl_mul2, nl_sub1, nl_lt1, nl_lt2, nl_le1, nl_le2, nl_eq1, nl_eq2, nl_m1, nl_m2, nl_inT, nI_add, nI_mul, nI_leI, nI_ltI, nI_eq, nI_clamp, nl_bit, oI_n, oI_s, oI_m1, true_and, and_true, eq_self, Bool.false_eq_true, not_false_eq_true, not_true_eq_false, false_implies, true_implies, implies_true, forall_const, Nat.not_lt_zero, ab_row_eq, ab_row_ne, ab_up_i, ab_up_o, pk_us, pk_un, ab_row_row]
          exact ⟨r, J2, a4, _, n1, fun e => absurd rfl e, fun _ => g5⟩
  have hz : max 999 B = 999 := Nat.max_eq_left hB
  have c0 : ¬ 999 < B := by omega
  obtain ⟨J', g0, g1, g2, g3, g4, g5⟩ := loop 999 (ab_up (ab_up (ab_up (ab_up I mx 46 0) mx 47 (-1)) mx 48 (-1)) mx 49 0) (Nat.le_refl _) (nfr_mfr (mfr_upx (mfr_upx (mfr_upx (mfr_upx mfr_refl (by unfold mkf; decide)) (by unfold mkf; decide)) (by unfold mkf; decide)) (by unfold mkf; decide)) nfr_refl) (by rw [ab_up_i, pk_un (by omega), ab_up_i, pk_un (by omega), ab_up_i, pk_un (by omega), ab_up_i, pk_un (by omega)]; exact h43) (by rw [ab_up_o (by decide), ab_up_o (by decide), ab_up_o (by decide), ab_up_o (by decide)]) (by rw [ab_up_o (by decide), ab_up_o (by decide), ab_up_o (by decide), ab_up_o (by decide)])
    (by
      rw [ab_up_i, pk_un (by omega), ab_up_i, pk_un (by omega), ab_up_i, pk_un (by omega), ab_up_i, pk_us]
      unfold ftM
      rw [hz, show B - 999 = 0 by omega]
      cases p <;> cases q <;> rfl)
    (by
      rw [ab_up_i, pk_un (by omega), ab_up_i, pk_un (by omega), ab_up_i, pk_us]
      unfold ftL
      rw [hz]; simp [c0])
    (by
      rw [ab_up_i, pk_un (by omega), ab_up_i, pk_us]
      unfold ftA
      rw [hz]; simp [c0])
    (by
      rw [ab_up_i, pk_us]
      unfold ftO
      rw [hz]; simp [c0])
  refine ⟨J', g0, g1, g2, g3, g4, ?_⟩
  refine ab_C_of (by decide) rfl (Nat.le_of_ble_eq_true rfl) hT ?_
  refine r_M_tellFits_0 hT _ (Nat.le_refl _) (Nat.le_refl _) ?_
  simp (disch := first | omega | decide) only [q3, nl_add1, nl_add2, nl_mul1, nl_mul2, nl_sub1, nl_lt1, nl_lt2, nl_le1, nl_le2, nl_eq1, nl_eq2, nl_m1, nl_m2, nl_inT, nI_add, nI_mul, nI_leI, nI_ltI, nI_eq, nI_clamp, nl_bit, oI_n, oI_s, oI_m1, true_and, and_true, eq_self, Bool.false_eq_true, not_false_eq_true, not_true_eq_false, false_implies, true_implies, implies_true, forall_const, Nat.not_lt_zero, ab_row_eq, ab_row_ne, ab_up_i, ab_up_o, pk_us, pk_un, ab_row_row]
  exact g5
end MBA
