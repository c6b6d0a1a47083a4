/-! JOINED: the model's table -/
theorem and2 (x y a b : Nat) (ha : a < 2) (hb : b < 2) : (2 * x + a) &&& (2 * y + b) = 2 * (x &&& y) + (a &&& b) := by
  refine Nat.eq_of_testBit_eq fun i => ?_
  have hab : a &&& b < 2 := Nat.lt_of_le_of_lt Nat.and_le_left ha
  cases i with
  | zero =>
    rw [Nat.testBit_and, Nat.testBit_zero, Nat.testBit_zero, Nat.testBit_zero]
    have e1 : (2 * x + a) % 2 = a := by omega
    have e2 : (2 * y + b) % 2 = b := by omega
    have e3 : (2 * (x &&& y) + (a &&& b)) % 2 = a &&& b := by omega
    rw [e1, e2, e3]
    rcases (by omega : a = 0 ∨ a = 1) with h | h <;> rcases (by omega : b = 0 ∨ b = 1) with h' | h' <;> subst h <;> subst h' <;> rfl
  | succ i =>
    rw [Nat.testBit_and, Nat.testBit_succ, Nat.testBit_succ, Nat.testBit_succ]
    have e1 : (2 * x + a) / 2 = x := by omega
    have e2 : (2 * y + b) / 2 = y := by omega
    have e3 : (2 * (x &&& y) + (a &&& b)) / 2 = x &&& y := by omega
    rw [e1, e2, e3, Nat.testBit_and]
/-- the next lesser part of a set -/
theorem sub_next : ∀ (m p P : Nat), p &&& m = p → P &&& m = P → P < p → P ≤ (p - 1) &&& m := by
  intro m
  induction m using Nat.strongRecOn with
  | ind m ih =>
    intro p P hp hP hlt
    by_cases hm : m = 0
    · subst hm; rw [Nat.and_zero] at hp; omega
    · have dm : m = 2 * (m / 2) + m % 2 := by omega
      have dp : p = 2 * (p / 2) + p % 2 := by omega
      have dP : P = 2 * (P / 2) + P % 2 := by omega
      have lm : m % 2 < 2 := Nat.mod_lt _ (by decide)
      have lp : p % 2 < 2 := Nat.mod_lt _ (by decide)
      have lP : P % 2 < 2 := Nat.mod_lt _ (by decide)
      have hp2 := hp
      have hP2 := hP
      rw [dm, dp, and2 _ _ _ _ lp lm] at hp2
      rw [dm, dP, and2 _ _ _ _ lP lm] at hP2
      have b1 : (p % 2) &&& (m % 2) < 2 := Nat.lt_of_le_of_lt Nat.and_le_left lp
      have b2 : (P % 2) &&& (m % 2) < 2 := Nat.lt_of_le_of_lt Nat.and_le_left lP
      have p1 : p / 2 &&& m / 2 = p / 2 := by omega
      have P1 : P / 2 &&& m / 2 = P / 2 := by omega
      have Pb : (P % 2) &&& (m % 2) = P % 2 := by omega
      by_cases hb : p % 2 = 1
      · have e : p - 1 = 2 * (p / 2) + 0 := by omega
        rw [e]
        conv => rhs; rw [dm]
        rw [and2 _ _ _ _ (by decide) lm, p1]
        omega
      · have e : p - 1 = 2 * (p / 2 - 1) + 1 := by omega
        have h9 := ih (m / 2) (by omega) (p / 2) (P / 2) p1 P1 (by omega)
        rw [e]
        conv => rhs; rw [dm]
        rw [and2 _ _ _ _ (by decide) lm]
        have : P % 2 ≤ 1 &&& (m % 2) := by
          rcases (by omega : P % 2 = 0 ∨ P % 2 = 1) with h | h
          · rw [h]; exact Nat.zero_le _
          · rcases (by omega : m % 2 = 0 ∨ m % 2 = 1) with h' | h'
            · rw [h, h'] at Pb; cases Pb
            · rw [h, h']; decide
        omega
theorem sub_xor {A B C : Nat} (h : B &&& C = 0) (e : B ||| C = A) : A ^^^ B = C ∧ B &&& A = B := by
  subst e
  constructor
  · refine Nat.eq_of_testBit_eq fun i => ?_
    rw [Nat.testBit_xor, Nat.testBit_or]
    have := tb_disj (x := i) h
    cases hb : B.testBit i <;> cases hc : C.testBit i <;> simp_all
  · refine Nat.eq_of_testBit_eq fun i => ?_
    rw [Nat.testBit_and, Nat.testBit_or]
    cases B.testBit i <;> simp
theorem xor_sub {A B : Nat} (h : B &&& A = B) : B &&& (A ^^^ B) = 0 ∧ B ||| (A ^^^ B) = A := by
  have hb : ∀ i, B.testBit i = true → A.testBit i = true := fun i hi => by
    have := congrArg (fun n => n.testBit i) h
    simp only [Nat.testBit_and] at this
    rw [hi] at this; simpa using this
  constructor
  · refine Nat.eq_of_testBit_eq fun i => ?_
    rw [Nat.testBit_and, Nat.testBit_xor, Nat.zero_testBit]
    have := hb i
    cases h1 : B.testBit i <;> cases h2 : A.testBit i <;> simp_all
  · refine Nat.eq_of_testBit_eq fun i => ?_
    rw [Nat.testBit_or, Nat.testBit_xor]
    have := hb i
    cases h1 : B.testBit i <;> cases h2 : A.testBit i <;> simp_all
theorem one_pow {A s : Nat} (h1 : fa_cnt (fun x => A.testBit x) 10 = 1) (hA : A < 2 ^ 10) (hs : A.testBit s = true) : A = 2 ^ s := Nat.eq_of_testBit_eq fun i => Bool.eq_iff_iff.mpr (by
  rw [tb_pow]
  constructor
  · intro hi; exact cnt_one h1 i s (tb_lt hA hi) (tb_lt hA hs) hi hs
  · intro e; rw [e]; exact hs)
/-- one row of the table -/
def jvl (e1 e2 pr : Nat → Nat) (E : Nat → Prop) (S A : Nat) (g : Nat → Nat) : Prop := ∀ s, s < S → g s ≤ 1000000 ∧ (g s = 1000000 ∨ Tr e1 e2 pr E S A s (g s))
def jcl (e1 e2 pr : Nat → Nat) (E : Nat → Prop) (g : Nat → Nat) : Prop := ∀ k, E k → g (e1 k) ≤ g (e2 k) + pr k ∧ g (e2 k) ≤ g (e1 k) + pr k
section MJO
variable {w : ab_Wd} {d n nc ns : Nat} {I : Nat → Nat → Int32} {L : Nat → Nat → Int64}
variable {S N : Nat} {sd : Nat → Bool} {e1 e2 pr fm : Nat → Nat} {l : List Nat}
def jfr (J I : Nat → Nat → Int32) (A : Nat) : Prop := (∀ c, c ≠ mx_joint → J c = I c) ∧ ∀ B s, B ≠ A → s < 10 → J mx_joint (10 * B + s) = I mx_joint (10 * B + s)
theorem jfr_trans {K J I : Nat → Nat → Int32} {A : Nat} (h : jfr K J A) (g : jfr J I A) : jfr K I A := ⟨fun c hc => (h.1 c hc).trans (g.1 c hc), fun B s h1 h2 => (h.2 B s h1 h2).trans (g.2 B s h1 h2)⟩
theorem jfr_up {J : Nat → Nat → Int32} {A s : Nat} {x : Int32} (hs : s < 10) : jfr (ab_up J mx_joint (10 * A + s) x) J A := ⟨fun c hc => ab_up_o hc, fun B t hB ht => by rw [ab_up_i, pk_un (by omega)]⟩
theorem smf_dec {g : Nat → Nat} {a v : Nat} (ha : a < S) (hv : v < g a) : smf (fun z => if z = a then v else g z) S < smf g S := by
  have h1 := smf_up (f := g) ha
  have h2 := smf_up (f := fun z => if z = a then v else g z) ha
  have e : (fun z => if z = a then 0 else (fun z => if z = a then v else g z) z) = fun z => if z = a then 0 else g z := by
    funext z
    by_cases e : z = a
    · rw [if_pos e, if_pos e]
    · rw [if_neg e, if_neg e]; exact if_neg e
  rw [e] at h2
  simp only [if_true] at h2
  omega
theorem z_spreads (hT : w.1.stackTraces = false) (hm : mC I S N sd e1 e2 pr fm l) {A : Nat} (hA : A < 1024) {g : Nat → Nat} {J : Nat → Nat → Int32} (hJ : ∀ c, c ≠ mx_joint → J c = I c) (hg : ∀ s, s < S → J mx_joint (10 * A + s) = nI (g s)) (hv : jvl e1 e2 pr (sdE N sd) S A g) :
    ∃ (J' : Nat → Nat → Int32) (g' : Nat → Nat), jfr J' J A ∧ (∀ s, s < S → J' mx_joint (10 * A + s) = nI (g' s)) ∧ jvl e1 e2 pr (sdE N sd) S A g' ∧ jcl e1 e2 pr (sdE N sd) g' ∧ (∀ s, s < S → g' s ≤ g s) ∧ ab_U w (d + 1) mt_M_spreads [.ref mx, .int (nI A)] J L n nc ns J' := by
  have hw := mC_ewp hm
  obtain ⟨⟨p1, p2, p3, p4, p5, p6⟩, m2, m3, m4, m5⟩ := hm
  generalize hE : sdE N sd = E at *
  have hEi : ∀ k, k < N → (E k ↔ sd k = true) := fun k hk => by rw [← hE]; exact ⟨fun h => h.2, fun h => ⟨hk, h⟩⟩
  have outer : ∀ m (g : Nat → Nat) (J1 : Nat → Nat → Int32), smf g S ≤ m → jfr J1 J A → (∀ s, s < S → J1 mx_joint (10 * A + s) = nI (g s)) → jvl e1 e2 pr E S A g →
      ∃ (J' : Nat → Nat → Int32) (g' : Nat → Nat), jfr J' J A ∧ (∀ s, s < S → J' mx_joint (10 * A + s) = nI (g' s)) ∧ jvl e1 e2 pr E S A g' ∧ jcl e1 e2 pr E g' ∧ (∀ s, s < S → g' s ≤ g s) ∧ ab_E w (d + 1) mt_M_spreads 2 [.ref mx, .int (nI A), .int 1, .null, .null, .null] [] (J1, L, ab_RR, n, nc, ns) (.inl none, (J', L, ab_RR, n, nc, ns)) := by
    intro m
    induction m using Nat.strongRecOn with
    | ind m ihm =>
      intro g J1 hsm hJ1 hg hv
      have inner : ∀ q k (h : Nat → Nat) (J2 : Nat → Nat → Int32) (fl : Bool), k + q = N → jfr J2 J A → (∀ s, s < S → J2 mx_joint (10 * A + s) = nI (h s)) → jvl e1 e2 pr E S A h → (∀ s, s < S → h s ≤ g s) → (fl = false → h = g ∧ ∀ j, j < k → E j → g (e1 j) ≤ g (e2 j) + pr j ∧ g (e2 j) ≤ g (e1 j) + pr j) → (fl = true → smf h S < smf g S) →
          ∃ (J' : Nat → Nat → Int32) (g' : Nat → Nat), jfr J' J A ∧ (∀ s, s < S → J' mx_joint (10 * A + s) = nI (g' s)) ∧ jvl e1 e2 pr E S A g' ∧ jcl e1 e2 pr E g' ∧ (∀ s, s < S → g' s ≤ g s) ∧ ab_E w (d + 1) mt_M_spreads 10 [.ref mx, .int (nI A), .int (if fl then 1 else 0), .int (nI k), .null, .null] [] (J2, L, ab_RR, n, nc, ns) (.inl none, (J', L, ab_RR, n, nc, ns)) := by
        intro q
        induction q with
        | zero =>
          intro k h J2 fl hk hJ2 hh hvh hle hf ht
          have e : k = N := by omega
          subst e
          have r2 : J2 mx_now 0 = nI k := by rw [hJ2.1 _ (by decide), hJ _ (by decide)]; exact p2
          cases fl with
          | false =>
            obtain ⟨e, hcl⟩ := hf rfl
            subst e
            refine ⟨J2, h, hJ2, hh, hvh, fun j hj => hcl j (by rw [← hE] at hj; exact hj.1) hj, fun _ _ => Nat.le_refl _, ?_⟩
            have z : ab_E w (d + 1) mt_M_spreads 2 [.ref mx, .int (nI A), .int 0, .null, .null, .null] [] (J2, L, ab_RR, n, nc, ns) (.inl none, (J2, L, ab_RR, n, nc, ns)) := by
              refine r_M_spreads_2 hT _ _ (Nat.le_refl _) (Nat.le_refl _) ?_
              exact ⟨fun _ => rfl, fun h => absurd rfl h⟩
            refine r_M_spreads_10 hT _ _ _ (Nat.le_refl _) (Nat.le_refl _) ?_
            exact bb_t (by rw [r2]; exact nI_le (Nat.le_refl _) (by omega)) z
          | true =>
            have hdec := ht rfl
            obtain ⟨J', g', b1, b2, b3, b4, b5, b6⟩ := ihm (smf h S) (by omega) h J2 (Nat.le_refl _) hJ2 hh hvh
            refine ⟨J', g', b1, b2, b3, b4, fun s hs => Nat.le_trans (b5 s hs) (hle s hs), ?_⟩
            refine r_M_spreads_10 hT _ _ _ (Nat.le_refl _) (Nat.le_refl _) ?_
            exact bb_t (by rw [r2]; exact nI_le (Nat.le_refl _) (by omega)) b6
        | succ q ihq =>
          intro k h J2 fl hk hJ2 hh hvh hle hf ht
          have hnow : J2 mx_now = I mx_now := (hJ2.1 _ (by decide)).trans (hJ _ (by decide))
          obtain ⟨q1, q2, q3, q4, q5, q6⟩ := p6 k (by omega)
          have hne := (m5 k (by omega)).2.2.2
          have hp1 := (m5 k (by omega)).2.2.1
          rw [← hnow] at q1 q2 q3
          have r2 : J2 mx_now 0 = nI N := by rw [hnow]; exact p2
          have hkN : ¬ N ≤ k := by omega
          have hsk := m3 k (by omega)
          rw [← hnow] at hsk
          by_cases hs : sd k = true
          · have hEk := (hEi k (by omega)).mpr hs
            have n1 := hh _ q4
            have n2 := hh _ q5
            obtain ⟨l1, t1⟩ := hvh _ q4
            obtain ⟨l2, t2⟩ := hvh _ q5
            have up : ∀ (a b : Nat), a < S → b < S → ed e1 e2 k b a → h b + pr k < h a → jfr (ab_up J2 mx_joint (10 * A + a) (nI (h b + pr k))) J A ∧ (∀ s, s < S → (ab_up J2 mx_joint (10 * A + a) (nI (h b + pr k))) mx_joint (10 * A + s) = nI ((fun z => if z = a then h b + pr k else h z) s)) ∧ jvl e1 e2 pr E S A (fun z => if z = a then h b + pr k else h z) ∧ (∀ s, s < S → (fun z => if z = a then h b + pr k else h z) s ≤ g s) ∧ smf (fun z => if z = a then h b + pr k else h z) S < smf g S := by
              intro a b ha hb he hlt
              have hsum : smf h S ≤ smf g S := by
                cases fl with
                | false => rw [(hf rfl).1]; exact Nat.le_refl _
                | true => exact Nat.le_of_lt (ht rfl)
              refine ⟨jfr_trans (jfr_up (by omega)) hJ2, fun s hs => ?_, fun s hs => ?_, fun s hs => ?_, Nat.lt_of_lt_of_le (smf_dec ha hlt) hsum⟩
              · rw [ab_up_i]
                show _ = nI (if s = a then h b + pr k else h s)
                by_cases e : s = a
                · rw [e, pk_us, if_pos rfl]
                · rw [pk_un (by omega), if_neg e]; exact hh s hs
              · show (if s = a then h b + pr k else h s) ≤ 1000000 ∧ ((if s = a then h b + pr k else h s) = 1000000 ∨ Tr e1 e2 pr E S A s (if s = a then h b + pr k else h s))
                by_cases e : s = a
                · rw [if_pos e]
                  have la := (hvh a ha).1
                  refine ⟨by omega, Or.inr ?_⟩
                  rw [e]
                  exact Tr_2 ((hvh b hb).2.resolve_left (by omega)) hEk he
                · rw [if_neg e]; exact hvh s hs
              · show (if s = a then h b + pr k else h s) ≤ g s
                by_cases e : s = a
                · rw [if_pos e, e]; have := hle a ha; omega
                · rw [if_neg e]; exact hle s hs
            by_cases c1 : h (e2 k) + pr k < h (e1 k)
            · obtain ⟨u1, u2, u3, u4, u5⟩ := up (e1 k) (e2 k) q4 q5 (Or.inr ⟨rfl, rfl⟩) c1
              obtain ⟨J', g', b1, b2, b3, b4, b5, b6⟩ := ihq (k + 1) _ _ true (by omega) u1 u2 u3 u4 (fun h => by cases h) (fun _ => u5)
              refine ⟨J', g', b1, b2, b3, b4, b5, ?_⟩
              have ne : ¬ 10 * A + e2 k = 10 * A + e1 k := by omega
              have c2 : ¬ h (e2 k) + pr k + pr k < h (e2 k) := by omega
              refine r_M_spreads_10 hT _ _ _ (Nat.le_refl _) (Nat.le_refl _) ?_
              simp (disch := first | omega | decide) only [r2, hkN, hsk, hs, q1, q2, q3, n1, n2, c1, ne, c2, nl_add1, nl_add2, nl_mul1, nl_mul2, nl_sub1, nl_lt1, nl_lt2, nl_le1, nl_le2, nl_eq1, nl_eq2, nl_m1, nl_m2, nl_inT, nI_add, nI_mul, nI_leI, nI_ltI, nI_eq, nI_clamp, nl_bit, oI_n, oI_s, oI_m1, true_and, and_true, eq_self, Bool.false_eq_true, not_false_eq_true, not_true_eq_false, false_implies, true_implies, implies_true, forall_const, Nat.not_lt_zero, ab_row_eq, ab_row_ne, ab_up_i, ab_up_o, pk_us, pk_un, ab_row_row]
              exact b6
            · by_cases c2 : h (e1 k) + pr k < h (e2 k)
              · obtain ⟨u1, u2, u3, u4, u5⟩ := up (e2 k) (e1 k) q5 q4 (Or.inl ⟨rfl, rfl⟩) c2
                obtain ⟨J', g', b1, b2, b3, b4, b5, b6⟩ := ihq (k + 1) _ _ true (by omega) u1 u2 u3 u4 (fun h => by cases h) (fun _ => u5)
                refine ⟨J', g', b1, b2, b3, b4, b5, ?_⟩
                refine r_M_spreads_10 hT _ _ _ (Nat.le_refl _) (Nat.le_refl _) ?_
                simp (disch := first | omega | decide) only [r2, hkN, hsk, hs, q1, q2, q3, n1, n2, c1, c2, nl_add1, nl_add2, nl_mul1, nl_mul2, nl_sub1, nl_lt1, nl_lt2, nl_le1, nl_le2, nl_eq1, nl_eq2, nl_m1, nl_m2, nl_inT, nI_add, nI_mul, nI_leI, nI_ltI, nI_eq, nI_clamp, nl_bit, oI_n, oI_s, oI_m1, true_and, and_true, eq_self, Bool.false_eq_true, not_false_eq_true, not_true_eq_false, false_implies, true_implies, implies_true, forall_const, Nat.not_lt_zero, ab_row_eq, ab_row_ne, ab_up_i, ab_up_o, pk_us, pk_un, ab_row_row]
                exact ⟨fun _ => b6, fun _ => b6⟩
              · obtain ⟨J', g', b1, b2, b3, b4, b5, b6⟩ := ihq (k + 1) h J2 fl (by omega) hJ2 hh hvh hle (fun e => by
                  obtain ⟨e1', hcl⟩ := hf e
                  refine ⟨e1', fun j hj hEj => ?_⟩
                  by_cases ej : j = k
                  · subst ej; rw [e1'] at c1 c2; omega
                  · exact hcl j (by omega) hEj) ht
                refine ⟨J', g', b1, b2, b3, b4, b5, ?_⟩
                cases fl with
                | true =>
                  refine r_M_spreads_10 hT _ _ _ (Nat.le_refl _) (Nat.le_refl _) ?_
                  simp (disch := first | omega | decide) only [r2, hkN, hsk, hs, q1, q2, q3, n1, n2, c1, c2, nl_add1, nl_add2, nl_mul1, nl_mul2, nl_sub1, nl_lt1, nl_lt2, nl_le1, nl_le2, nl_eq1, nl_eq2, nl_m1, nl_m2, nl_inT, nI_add, nI_mul, nI_leI, nI_ltI, nI_eq, nI_clamp, nl_bit, oI_n, oI_s, oI_m1, true_and, and_true, eq_self, Bool.false_eq_true, not_false_eq_true, not_true_eq_false, false_implies, true_implies, implies_true, forall_const, Nat.not_lt_zero, ab_row_eq, ab_row_ne, ab_up_i, ab_up_o, pk_us, pk_un, ab_row_row]
                  exact ⟨fun e => absurd e (by decide), fun _ => b6⟩
                | false =>
                  refine r_M_spreads_10 hT _ _ _ (Nat.le_refl _) (Nat.le_refl _) ?_
                  simp (disch := first | omega | decide) only [r2, hkN, hsk, hs, q1, q2, q3, n1, n2, c1, c2, nl_add1, nl_add2, nl_mul1, nl_mul2, nl_sub1, nl_lt1, nl_lt2, nl_le1, nl_le2, nl_eq1, nl_eq2, nl_m1, nl_m2, nl_inT, nI_add, nI_mul, nI_leI, nI_ltI, nI_eq, nI_clamp, nl_bit, oI_n, oI_s, oI_m1, true_and, and_true, eq_self, Bool.false_eq_true, not_false_eq_true, not_true_eq_false, false_implies, true_implies, implies_true, forall_const, Nat.not_lt_zero, ab_row_eq, ab_row_ne, ab_up_i, ab_up_o, pk_us, pk_un, ab_row_row]
                  exact ⟨fun _ => b6, fun e => absurd rfl e⟩
          · obtain ⟨J', g', b1, b2, b3, b4, b5, b6⟩ := ihq (k + 1) h J2 fl (by omega) hJ2 hh hvh hle (fun e => by
              obtain ⟨e1', hcl⟩ := hf e
              refine ⟨e1', fun j hj hEj => ?_⟩
              have ej : j ≠ k := fun ej => hs ((hEi k (by omega)).mp (ej ▸ hEj))
              exact hcl j (by omega) hEj) ht
            refine ⟨J', g', b1, b2, b3, b4, b5, ?_⟩
            refine r_M_spreads_10 hT _ _ _ (Nat.le_refl _) (Nat.le_refl _) ?_
            simp (disch := first | omega | decide) only [r2, hkN, hsk, hs, nl_add1, nl_add2, nl_mul1, nl_mul2, nl_sub1, nl_lt1, nl_lt2, nl_le1, nl_le2, nl_eq1, nl_eq2, nl_m1, nl_m2, nl_inT, nI_add, nI_mul, nI_leI, nI_ltI, nI_eq, nI_clamp, nl_bit, oI_n, oI_s, oI_m1, true_and, and_true, eq_self, Bool.false_eq_true, not_false_eq_true, not_true_eq_false, false_implies, true_implies, implies_true, forall_const, Nat.not_lt_zero, ab_row_eq, ab_row_ne, ab_up_i, ab_up_o, pk_us, pk_un, ab_row_row]
            exact b6
      obtain ⟨J', g', b1, b2, b3, b4, b5, b6⟩ := inner N 0 g J1 false (by omega) hJ1 hg hv (fun _ _ => Nat.le_refl _) (fun _ => ⟨rfl, fun j hj => absurd hj (Nat.not_lt_zero j)⟩) (fun h => by cases h)
      refine ⟨J', g', b1, b2, b3, b4, b5, ?_⟩
      refine r_M_spreads_2 hT _ _ (Nat.le_refl _) (Nat.le_refl _) ?_
      exact ⟨fun h => absurd h (by decide), fun _ => b6⟩
  obtain ⟨J', g', b1, b2, b3, b4, b5, b6⟩ := outer (smf g S) g J (Nat.le_refl _) ⟨fun _ _ => rfl, fun _ _ _ _ => rfl⟩ hg hv
  refine ⟨J', g', b1, b2, b3, b4, b5, ?_⟩
  refine ab_C_of (by decide) rfl (Nat.le_of_ble_eq_true rfl) hT ?_
  refine r_M_spreads_0 hT _ (Nat.le_refl _) (Nat.le_refl _) ?_
  exact b6
/-- a finished row of the table -/
def jok (e1 e2 pr : Nat → Nat) (E : Nat → Prop) (S A : Nat) (T : Nat → Nat → Nat) : Prop := jvl e1 e2 pr E S A (T A) ∧ jcl e1 e2 pr E (T A) ∧ (∀ x, A = 2 ^ x → x < S → T A x = 0) ∧ ∀ B C s, B ≠ 0 → C ≠ 0 → B &&& C = 0 → B ||| C = A → s < S → T A s ≤ T B s + T C s
theorem z_tellJoints (hT : w.1.stackTraces = false) (hm : mC I S N sd e1 e2 pr fm l) {all : Nat} (hall : all < 2 ^ S) :
    ∃ (J : Nat → Nat → Int32) (T : Nat → Nat → Nat), (∀ c, c ≠ mx_joint → J c = I c) ∧ (∀ A s, A ≠ 0 → A &&& all = A → s < S → J mx_joint (10 * A + s) = nI (T A s)) ∧ (∀ A, A ≠ 0 → A &&& all = A → jok e1 e2 pr (sdE N sd) S A T) ∧ ab_U w (d + 2) mt_M_tellJoints [.ref mx, .int (nI all)] I L n nc ns J := by
  have p1 := hm.1.1
  have p3 := hm.1.2.2.1
  have hS10 : 2 ^ S ≤ 2 ^ 10 := Nat.pow_le_pow_right (by decide) p3
  have ltA : ∀ {A : Nat}, A ≤ all → A < 1024 := fun h => by omega
  -- what was finished up to A
  generalize hD : (fun (J : Nat → Nat → Int32) (T : Nat → Nat → Nat) (A : Nat) => (∀ c, c ≠ mx_joint → J c = I c) ∧ (∀ B s, B ≠ 0 → B < A → B &&& all = B → s < S → J mx_joint (10 * B + s) = nI (T B s)) ∧ ∀ B, B ≠ 0 → B < A → B &&& all = B → jok e1 e2 pr (sdE N sd) S B T) = D
  have subT : ∀ {B A : Nat}, B &&& A = B → A &&& all = A → B &&& all = B := fun {B A} h1 h2 => by rw [← h1, Nat.and_assoc, h2]
  have outer : ∀ q A (J : Nat → Nat → Int32) (T : Nat → Nat → Nat), A + q = all + 1 → 1 ≤ A → D J T A → ∃ (J' : Nat → Nat → Int32) (T' : Nat → Nat → Nat), D J' T' (all + 1) ∧ ab_E w ((d + 1) + 1) mt_M_tellJoints 2 [.ref mx, .int (nI all), .int (nI A), .null, .null, .null, .null] [] (J, L, ab_RR, n, nc, ns) (.inl none, (J', L, ab_RR, n, nc, ns)) := by
    intro q
    induction q with
    | zero =>
      intro A J T hA h1 hDJ
      have e : A = all + 1 := by omega
      subst e
      refine ⟨J, T, hDJ, ?_⟩
      refine r_M_tellJoints_2 hT _ _ (Nat.le_refl _) (Nat.le_refl _) ?_
      refine bb_t ?_ rfl
      exact (nI_ltI (by omega) (by omega)).mpr (by omega)
    | succ q ih =>
      intro A J T hA h1 hDJ
      have hA10 : A < 2 ^ 10 := by omega
      have hnlt : ¬ nI all < nI A := fun h => by have := (nI_ltI (by omega) (by omega)).mp h; omega
      have hsub : (nI A &&& (nI all ^^^ (-1))) = 0 ↔ A &&& all = A := by
        constructor
        · intro h
          refine Nat.eq_of_testBit_eq fun i => ?_
          rw [Nat.testBit_and]
          cases hb : A.testBit i with
          | false => rfl
          | true =>
            have hi := tb_lt hA10 hb
            have := congrArg (fun z => bt z i) h
            simp only [b_and, b_0] at this
            rw [ab_bnot _ (by omega), bt_nI _ (by omega), bt_nI _ (by omega), hb] at this
            simpa using this
        · intro h
          refine b_ext fun i hi => ?_
          rw [b_and, ab_bnot _ hi, bt_nI _ hi, bt_nI _ hi, b_0]
          have := congrArg (fun n => n.testBit i) h
          simp only [Nat.testBit_and] at this
          cases hb : A.testBit i <;> cases hc : all.testBit i <;> simp_all
      by_cases hs : A &&& all = A
      · have hDJ' := hDJ
        rw [← hD] at hDJ'
        obtain ⟨d1, d2, d3⟩ := hDJ'
        have bc := bc_ok (w := w) (d := d + 1) (n := n) (nc := nc) (ns := ns) (I := J) (L := L) hT hA10
        have hc10 : fa_cnt (fun x => A.testBit x) 10 ≤ 10 := fa_cnt_le _ _
        -- the row as it begins
        generalize hf0 : (fun s => if fa_cnt (fun x => A.testBit x) 10 = 1 ∧ A.testBit s = true then 0 else 1000000) = f0
        have f0v : jvl e1 e2 pr (sdE N sd) S A f0 := fun s hs => by
          rw [← hf0]
          show (if fa_cnt (fun x => A.testBit x) 10 = 1 ∧ A.testBit s = true then 0 else 1000000) ≤ 1000000 ∧ ((if fa_cnt (fun x => A.testBit x) 10 = 1 ∧ A.testBit s = true then 0 else 1000000) = 1000000 ∨ Tr e1 e2 pr (sdE N sd) S A s (if fa_cnt (fun x => A.testBit x) 10 = 1 ∧ A.testBit s = true then 0 else 1000000))
          by_cases e : fa_cnt (fun x => A.testBit x) 10 = 1 ∧ A.testBit s = true
          · rw [if_pos e]
            refine ⟨by omega, Or.inr ?_⟩
            rw [one_pow e.1 hA10 e.2]
            exact Tr_1 hs
          · rw [if_neg e]; exact ⟨Nat.le_refl _, Or.inl rfl⟩
        have f01 : ∀ x, A = 2 ^ x → x < S → f0 x = 0 := fun x e hx => by
          rw [← hf0]
          show (if fa_cnt (fun x => A.testBit x) 10 = 1 ∧ A.testBit x = true then 0 else 1000000) = 0
          rw [if_pos]
          rw [e]
          exact ⟨cnt_pow (by omega), tb_pow.mpr rfl⟩
        -- behind the parts: spread, and on
        have done : ∀ (g : Nat → Nat) (K : Nat → Nat → Int32), jfr K J A → (∀ s, s < S → K mx_joint (10 * A + s) = nI (g s)) → jvl e1 e2 pr (sdE N sd) S A g → (∀ s, s < S → g s ≤ f0 s) → (∀ B s, B ≠ 0 → B ≠ A → B &&& A = B → s < S → g s ≤ T B s + T (A ^^^ B) s) →
            ∃ (J' : Nat → Nat → Int32) (T' : Nat → Nat → Nat), D J' T' (all + 1) ∧ ∃ (K2 : Nat → Nat → Int32), ab_C w (d + 1) mt_M_spreads [.ref mx, .int (nI A)] (K, L, ab_RR, n, nc, ns) (.inl none, (K2, L, ab_RR, n, nc, ns)) ∧ ab_E w ((d + 1) + 1) mt_M_tellJoints 2 [.ref mx, .int (nI all), .int (nI (A + 1)), .null, .null, .null, .null] [] (K2, L, ab_RR, n, nc, ns) (.inl none, (J', L, ab_RR, n, nc, ns)) := by
          intro g K hK hg hgv hg0 hgp
          obtain ⟨K2, g2, b1, b2, b3, b4, b5, b6⟩ := z_spreads (w := w) (d := d) (n := n) (nc := nc) (ns := ns) (L := L) hT hm (ltA (by omega)) (fun c hc => (hK.1 c hc).trans (d1 c hc)) hg hgv
          generalize hT2 : (fun B s => if B = A then g2 s else T B s) = T2
          have t2A : T2 A = g2 := by rw [← hT2]; funext s; exact if_pos rfl
          have t2o : ∀ B, B ≠ A → T2 B = T B := fun B hB => by rw [← hT2]; funext s; exact if_neg hB
          obtain ⟨J', T', c1, c2⟩ := ih (A + 1) K2 T2 (by omega) (by omega) (by
            rw [← hD]
            have nez : ∀ {B C : Nat}, B &&& C = 0 → B ||| C = A → C ≠ 0 → B ≠ A := fun {B C} h1 h2 h3 e => by
              have := (sub_xor h1 h2).1
              rw [e, Nat.xor_self] at this
              exact h3 this.symm
            refine ⟨fun c hc => (b1.1 c hc).trans ((hK.1 c hc).trans (d1 c hc)), fun B s h0 hB hBs hsS => ?_, fun B h0 hB hBs => ?_⟩
            · by_cases e : B = A
              · rw [e, t2A]; exact b2 s hsS
              · rw [t2o B e, b1.2 B s e (by omega), hK.2 B s e (by omega)]; exact d2 B s h0 (by omega) hBs hsS
            · by_cases e : B = A
              · subst e
                refine ⟨by rw [t2A]; exact b3, by rw [t2A]; exact b4, fun x ex hx => ?_, fun B' C' s u1 u2 u3 u4 hsS => ?_⟩
                · rw [t2A]
                  have h1 := b5 x hx
                  have h2 := hg0 x hx
                  have h3 := f01 x ex hx
                  omega
                · have nb := nez u3 u4 u2
                  have ncc : C' ≠ B := nez (by rw [Nat.and_comm]; exact u3) (by rw [Nat.or_comm]; exact u4) u1
                  obtain ⟨x1, x2⟩ := sub_xor u3 u4
                  rw [t2A, t2o _ nb, t2o _ ncc]
                  have := hgp B' s u1 nb x2 hsS
                  rw [x1] at this
                  exact Nat.le_trans (b5 s hsS) this
              · have hj := d3 B h0 (by omega) hBs
                refine ⟨by rw [t2o B e]; exact hj.1, by rw [t2o B e]; exact hj.2.1, fun x ex hx => by rw [t2o B e]; exact hj.2.2.1 x ex hx, fun B' C' s u1 u2 u3 u4 hsS => ?_⟩
                have sB : B' ≤ B := by rw [← u4]; exact Nat.left_le_or
                have sC : C' ≤ B := by rw [← u4]; exact Nat.right_le_or
                rw [t2o B e, t2o B' (by omega), t2o C' (by omega)]
                exact hj.2.2.2 B' C' s u1 u2 u3 u4 hsS)
          exact ⟨J', T', c1, K2, b6, c2⟩
        -- the parts
        have parts : ∀ m p (g : Nat → Nat) (K : Nat → Nat → Int32) (v3 : Int32), p ≤ m → p < A → p &&& A = p → jfr K J A → (∀ s, s < S → K mx_joint (10 * A + s) = nI (g s)) → jvl e1 e2 pr (sdE N sd) S A g → (∀ s, s < S → g s ≤ f0 s) → (∀ B s, B ≠ 0 → B ≠ A → B &&& A = B → p < B → s < S → g s ≤ T B s + T (A ^^^ B) s) →
            ∃ (J' : Nat → Nat → Int32) (T' : Nat → Nat → Nat), D J' T' (all + 1) ∧ ab_E w ((d + 1) + 1) mt_M_tellJoints 89 [.ref mx, .int (nI all), .int (nI A), .int v3, .int (nI p), .null, .null] [] (K, L, ab_RR, n, nc, ns) (.inl none, (J', L, ab_RR, n, nc, ns)) := by
          intro m
          induction m with
          | zero =>
            intro p g K v3 hpm hpA hps hK hg hgv hg0 hgp
            have e : p = 0 := by omega
            subst e
            obtain ⟨J', T', c1, K2, c2, c3⟩ := done g K hK hg hgv hg0 (fun B s b1 b2 b3 b4 => hgp B s b1 b2 b3 (by omega) b4)
            refine ⟨J', T', c1, ?_⟩
            refine r_M_tellJoints_89 hT _ _ _ _ (Nat.le_refl _) (Nat.le_refl _) ?_
            refine bb_t (by decide) ⟨K2, c2, ?_⟩
            rw [nI_1]; exact c3
          | succ m ihm =>
            intro p g K v3 hpm hpA hps hK hg hgv hg0 hgp
            by_cases e : p = 0
            · subst e
              obtain ⟨J', T', c1, K2, c2, c3⟩ := done g K hK hg hgv hg0 (fun B s b1 b2 b3 b4 => hgp B s b1 b2 b3 (by omega) b4)
              refine ⟨J', T', c1, ?_⟩
              refine r_M_tellJoints_89 hT _ _ _ _ (Nat.le_refl _) (Nat.le_refl _) ?_
              refine bb_t (by decide) ⟨K2, c2, ?_⟩
              rw [nI_1]; exact c3
            · obtain ⟨x1, x2⟩ := xor_sub hps
              have xs : (A ^^^ p) &&& A = A ^^^ p := by
                conv => lhs; rw [Nat.and_comm]
                refine Nat.eq_of_testBit_eq fun i => ?_
                have := congrArg (fun n => n.testBit i) x2
                simp only [Nat.testBit_or, Nat.testBit_and] at this ⊢
                cases hb : (A ^^^ p).testBit i <;> simp_all
              have xne : A ^^^ p ≠ A := fun ee => e (Nat.eq_of_testBit_eq fun i => by
                have := congrArg (fun n => n.testBit i) ee
                simp only [Nat.testBit_xor, Nat.zero_testBit] at this ⊢
                cases h1 : A.testBit i <;> cases h2 : p.testBit i <;> simp_all)
              have xle : A ^^^ p ≤ A := by conv => rhs; rw [← x2]
                                           exact Nat.right_le_or
              have x0 : A ^^^ p ≠ 0 := fun ee => by rw [ee, Nat.or_zero] at x2; omega
              have row : ∀ r s (h : Nat → Nat) (K : Nat → Nat → Int32), s + r = S → jfr K J A → (∀ t, t < S → K mx_joint (10 * A + t) = nI (h t)) → jvl e1 e2 pr (sdE N sd) S A h → (∀ t, t < S → h t ≤ g t) → (∀ t, t < s → h t ≤ T p t + T (A ^^^ p) t) →
                  ∃ (J' : Nat → Nat → Int32) (T' : Nat → Nat → Nat), D J' T' (all + 1) ∧ ab_E w ((d + 1) + 1) mt_M_tellJoints 97 [.ref mx, .int (nI all), .int (nI A), .int v3, .int (nI p), .int (nI s), .null] [] (K, L, ab_RR, n, nc, ns) (.inl none, (J', L, ab_RR, n, nc, ns)) := by
                intro r
                induction r with
                | zero =>
                  intro s h K hsr hK hh hhv hhg hhp
                  have es : s = S := by omega
                  subst es
                  have hnx : (p - 1) &&& A < p := Nat.lt_of_le_of_lt Nat.and_le_left (by omega)
                  obtain ⟨J', T', c1, c2⟩ := ihm ((p - 1) &&& A) h K v3 (by omega) (by omega) (by rw [Nat.and_assoc, Nat.and_self]) hK hh hhv (fun t ht => Nat.le_trans (hhg t ht) (hg0 t ht)) (fun B t b1 b2 b3 b4 b5 => by
                    by_cases eB : B = p
                    · rw [eB]; exact hhp t b5
                    · have : p < B := Nat.lt_of_not_le fun hle => by
                        have := sub_next A p B hps b3 (by omega)
                        omega
                      exact Nat.le_trans (hhg t b5) (hgp B t b1 b2 b3 this b5))
                  refine ⟨J', T', c1, ?_⟩
                  have r2 : K mx 2 = nI s := by rw [hK.1 _ (by decide), d1 _ (by decide)]; exact p1
                  have ee : (nI p - 1) &&& nI A = nI ((p - 1) &&& A) := by
                    have e8 : nI p - 1 = nI (p - 1) := nI_sub (b := 1) (by omega)
                    rw [e8, fa_and]
                  refine r_M_tellJoints_97 hT _ _ _ _ _ (Nat.le_refl _) (Nat.le_refl _) ?_
                  refine bb_t (by rw [r2]; exact nI_le (Nat.le_refl _) (by omega)) ?_
                  rw [ee]; exact c2
                | succ r ihr =>
                  intro s h K hsr hK hh hhv hhg hhp
                  have hsS : s < S := by omega
                  have hSs : ¬ S ≤ s := by omega
                  have r2 : K mx 2 = nI S := by rw [hK.1 _ (by decide), d1 _ (by decide)]; exact p1
                  have vP : K mx_joint (10 * p + s) = nI (T p s) := by rw [hK.2 p s (by omega) (by omega)]; exact d2 p s e (by omega) (subT hps hs) hsS
                  have vX : K mx_joint (10 * (A ^^^ p) + s) = nI (T (A ^^^ p) s) := by rw [hK.2 _ s xne (by omega)]; exact d2 _ s x0 (by omega) (subT xs hs) hsS
                  have vA := hh s hsS
                  have jp := (d3 p e (by omega) (subT hps hs)).1 s hsS
                  have jx := (d3 _ x0 (by omega) (subT xs hs)).1 s hsS
                  have ja := hhv s hsS
                  have lp := jp.1
                  have lx := jx.1
                  have la := ja.1
                  have fx := fa_xor A p
                  by_cases hc : T p s + T (A ^^^ p) s < h s
                  · obtain ⟨J', T', c1, c2⟩ := ihr (s + 1) (fun t => if t = s then T p s + T (A ^^^ p) s else h t) (ab_up K mx_joint (10 * A + s) (nI (T p s + T (A ^^^ p) s))) (by omega) (jfr_trans (jfr_up (by omega)) hK) (fun t ht => by
                        rw [ab_up_i]
                        show _ = nI (if t = s then T p s + T (A ^^^ p) s else h t)
                        by_cases et : t = s
                        · rw [et, pk_us, if_pos rfl]
                        · rw [pk_un (by omega), if_neg et]; exact hh t ht) (fun t ht => by
                        show (if t = s then T p s + T (A ^^^ p) s else h t) ≤ 1000000 ∧ ((if t = s then T p s + T (A ^^^ p) s else h t) = 1000000 ∨ Tr e1 e2 pr (sdE N sd) S A t (if t = s then T p s + T (A ^^^ p) s else h t))
                        by_cases et : t = s
                        · rw [if_pos et]
                          refine ⟨by omega, Or.inr ?_⟩
                          rw [et]
                          have := Tr_3 (jp.2.resolve_left (by omega)) (jx.2.resolve_left (by omega)) x1
                          rwa [x2] at this
                        · rw [if_neg et]; exact hhv t ht) (fun t ht => by
                        show (if t = s then T p s + T (A ^^^ p) s else h t) ≤ g t
                        by_cases et : t = s
                        · rw [if_pos et, et]; have := hhg s hsS; omega
                        · rw [if_neg et]; exact hhg t ht) (fun t ht => by
                        show (if t = s then T p s + T (A ^^^ p) s else h t) ≤ T p t + T (A ^^^ p) t
                        by_cases et : t = s
                        · rw [if_pos et, et]; exact Nat.le_refl _
                        · rw [if_neg et]; exact hhp t (by omega))
                    refine ⟨J', T', c1, ?_⟩
                    refine r_M_tellJoints_97 hT _ _ _ _ _ (Nat.le_refl _) (Nat.le_refl _) ?_
                    simp (disch := first | omega | decide) only [r2, hSs, fx, vP, vX, vA, hc, nl_add1, nl_add2, nl_mul1, nl_mul2, nl_sub1, nl_lt1, nl_lt2, nl_le1, nl_le2, nl_eq1, nl_eq2, nl_m1, nl_m2, nl_inT, nI_add, nI_mul, nI_leI, nI_ltI, nI_eq, nI_clamp, nl_bit, oI_n, oI_s, oI_m1, true_and, and_true, eq_self, Bool.false_eq_true, not_false_eq_true, not_true_eq_false, false_implies, true_implies, implies_true, forall_const, Nat.not_lt_zero, ab_row_eq, ab_row_ne, ab_up_i, ab_up_o, pk_us, pk_un, ab_row_row]
                    exact c2
                  · obtain ⟨J', T', c1, c2⟩ := ihr (s + 1) h K (by omega) hK hh hhv hhg (fun t ht => by
                      by_cases et : t = s
                      · rw [et]; omega
                      · exact hhp t (by omega))
                    refine ⟨J', T', c1, ?_⟩
                    refine r_M_tellJoints_97 hT _ _ _ _ _ (Nat.le_refl _) (Nat.le_refl _) ?_
                    simp (disch := first | omega | decide) only [r2, hSs, fx, vP, vX, vA, hc, nl_add1, nl_add2, nl_mul1, nl_mul2, nl_sub1, nl_lt1, nl_lt2, nl_le1, nl_le2, nl_eq1, nl_eq2, nl_m1, nl_m2, nl_inT, nI_add, nI_mul, nI_leI, nI_ltI, nI_eq, nI_clamp, nl_bit, oI_n, oI_s, oI_m1, true_and, and_true, eq_self, Bool.false_eq_true, not_false_eq_true, not_true_eq_false, false_implies, true_implies, implies_true, forall_const, Nat.not_lt_zero, ab_row_eq, ab_row_ne, ab_up_i, ab_up_o, pk_us, pk_un, ab_row_row]
                    exact c2
              obtain ⟨J', T', c1, c2⟩ := row S 0 g K (by omega) hK hg hgv (fun _ _ => Nat.le_refl _) (fun t ht => absurd ht (Nat.not_lt_zero t))
              refine ⟨J', T', c1, ?_⟩
              refine r_M_tellJoints_89 hT _ _ _ _ (Nat.le_refl _) (Nat.le_refl _) ?_
              refine bb_f (fun h => ?_) c2
              have := (nI_leI (b := 0) (by omega) (by omega)).mp h
              omega
        -- the row is begun
        have init : ∀ r s (K : Nat → Nat → Int32) (v3 : Int32), s + r = S → (v3 = 0 ↔ ¬ fa_cnt (fun x => A.testBit x) 10 = 1) → jfr K J A → (∀ t, t < s → K mx_joint (10 * A + t) = nI (f0 t)) →
            ∃ (J' : Nat → Nat → Int32) (T' : Nat → Nat → Nat), D J' T' (all + 1) ∧ ab_E w ((d + 1) + 1) mt_M_tellJoints 35 [.ref mx, .int (nI all), .int (nI A), .int v3, .int (nI s), .null, .null] [] (K, L, ab_RR, n, nc, ns) (.inl none, (J', L, ab_RR, n, nc, ns)) := by
          intro r
          induction r with
          | zero =>
            intro s K v3 hsr h3 hK hh
            have es : s = S := by omega
            subst es
            have hnx : (A - 1) &&& A < A := Nat.lt_of_le_of_lt Nat.and_le_left (by omega)
            obtain ⟨J', T', c1, c2⟩ := parts ((A - 1) &&& A) ((A - 1) &&& A) f0 K v3 (Nat.le_refl _) hnx (by rw [Nat.and_assoc, Nat.and_self]) hK hh f0v (fun _ _ => Nat.le_refl _) (fun B t b1 b2 b3 b4 b5 => by
              exfalso
              have : B ≤ A := by rw [← b3]; exact Nat.and_le_right
              have := sub_next A A B (Nat.and_self A) b3 (by omega)
              omega)
            refine ⟨J', T', c1, ?_⟩
            have r2 : K mx 2 = nI s := by rw [hK.1 _ (by decide), d1 _ (by decide)]; exact p1
            have ee : (nI A - 1) &&& nI A = nI ((A - 1) &&& A) := by
              have e8 : nI A - 1 = nI (A - 1) := nI_sub (b := 1) (by omega)
              rw [e8, fa_and]
            refine r_M_tellJoints_35 hT _ _ _ _ (Nat.le_refl _) (Nat.le_refl _) ?_
            refine bb_t (by rw [r2]; exact nI_le (Nat.le_refl _) (by omega)) ?_
            rw [ee]; exact c2
          | succ r ihr =>
            intro s K v3 hsr h3 hK hh
            have hSs : ¬ S ≤ s := by omega
            have r2 : K mx 2 = nI S := by rw [hK.1 _ (by decide), d1 _ (by decide)]; exact p1
            have step : ∀ x : Int32, x = nI (f0 s) → ∃ (J' : Nat → Nat → Int32) (T' : Nat → Nat → Nat), D J' T' (all + 1) ∧ ab_E w ((d + 1) + 1) mt_M_tellJoints 35 [.ref mx, .int (nI all), .int (nI A), .int v3, .int (nI (s + 1)), .null, .null] [] ((ab_up K mx_joint (10 * A + s) x), L, ab_RR, n, nc, ns) (.inl none, (J', L, ab_RR, n, nc, ns)) := fun x hx => ihr (s + 1) _ v3 (by omega) h3 (jfr_trans (jfr_up (by omega)) hK) (fun t ht => by
              rw [ab_up_i]
              by_cases et : t = s
              · rw [et, pk_us, hx]
              · rw [pk_un (by omega)]; exact hh t (by omega))
            have hbA : bt (nI A) s = A.testBit s := bt_nI A (by omega)
            by_cases h1 : fa_cnt (fun x => A.testBit x) 10 = 1
            · have hv3 : ¬ v3 = 0 := fun h => (h3.mp h) h1
              by_cases hb : A.testBit s = true
              · obtain ⟨J', T', c1, c2⟩ := step 0 (by
                  rw [← hf0]
                  show _ = nI (if fa_cnt (fun x => A.testBit x) 10 = 1 ∧ A.testBit s = true then 0 else 1000000)
                  rw [if_pos ⟨h1, hb⟩]; rfl)
                refine ⟨J', T', c1, ?_⟩
                refine r_M_tellJoints_35 hT _ _ _ _ (Nat.le_refl _) (Nat.le_refl _) ?_
                simp (disch := first | omega | decide) only [r2, hSs, hv3, hbA, hb, nl_add1, nl_add2, nl_mul1, nl_mul2, nl_sub1, nl_lt1, nl_lt2, nl_le1, nl_le2, nl_eq1, nl_eq2, nl_m1, nl_m2, nl_inT, nI_add, nI_mul, nI_leI, nI_ltI, nI_eq, nI_clamp, nl_bit, oI_n, oI_s, oI_m1, true_and, and_true, eq_self, Bool.false_eq_true, not_false_eq_true, not_true_eq_false, false_implies, true_implies, implies_true, forall_const, Nat.not_lt_zero, ab_row_eq, ab_row_ne, ab_up_i, ab_up_o, pk_us, pk_un, ab_row_row]
                exact c2
              · obtain ⟨J', T', c1, c2⟩ := step 1000000 (by
                  rw [← hf0]
                  show _ = nI (if fa_cnt (fun x => A.testBit x) 10 = 1 ∧ A.testBit s = true then 0 else 1000000)
                  rw [if_neg (fun h => hb h.2)]; rfl)
                refine ⟨J', T', c1, ?_⟩
                refine r_M_tellJoints_35 hT _ _ _ _ (Nat.le_refl _) (Nat.le_refl _) ?_
                simp (disch := first | omega | decide) only [r2, hSs, hv3, hbA, hb, nl_add1, nl_add2, nl_mul1, nl_mul2, nl_sub1, nl_lt1, nl_lt2, nl_le1, nl_le2, nl_eq1, nl_eq2, nl_m1, nl_m2, nl_inT, nI_add, nI_mul, nI_leI, nI_ltI, nI_eq, nI_clamp, nl_bit, oI_n, oI_s, oI_m1, true_and, and_true, eq_self, Bool.false_eq_true, not_false_eq_true, not_true_eq_false, false_implies, true_implies, implies_true, forall_const, Nat.not_lt_zero, ab_row_eq, ab_row_ne, ab_up_i, ab_up_o, pk_us, pk_un, ab_row_row]
                exact c2
            · have hv3 : v3 = 0 := h3.mpr h1
              obtain ⟨J', T', c1, c2⟩ := step 1000000 (by
                rw [← hf0]
                show _ = nI (if fa_cnt (fun x => A.testBit x) 10 = 1 ∧ A.testBit s = true then 0 else 1000000)
                rw [if_neg (fun h => h1 h.1)]; rfl)
              refine ⟨J', T', c1, ?_⟩
              refine r_M_tellJoints_35 hT _ _ _ _ (Nat.le_refl _) (Nat.le_refl _) ?_
              simp (disch := first | omega | decide) only [r2, hSs, hv3, nl_add1, nl_add2, nl_mul1, nl_mul2, nl_sub1, nl_lt1, nl_lt2, nl_le1, nl_le2, nl_eq1, nl_eq2, nl_m1, nl_m2, nl_inT, nI_add, nI_mul, nI_leI, nI_ltI, nI_eq, nI_clamp, nl_bit, oI_n, oI_s, oI_m1, true_and, and_true, eq_self, Bool.false_eq_true, not_false_eq_true, not_true_eq_false, false_implies, true_implies, implies_true, forall_const, Nat.not_lt_zero, ab_row_eq, ab_row_ne, ab_up_i, ab_up_o, pk_us, pk_un, ab_row_row]
              rw [hv3] at c2
              exact c2
        by_cases h1 : fa_cnt (fun x => A.testBit x) 10 = 1
        · obtain ⟨J', T', c1, c2⟩ := init S 0 J 1 (by omega) ⟨fun h => absurd h (by decide), fun h => absurd h1 h⟩ ⟨fun _ _ => rfl, fun _ _ _ _ => rfl⟩ (fun t ht => absurd ht (Nat.not_lt_zero t))
          refine ⟨J', T', c1, ?_⟩
          refine r_M_tellJoints_2 hT _ _ (Nat.le_refl _) (Nat.le_refl _) ?_
          refine bb_f hnlt ⟨fun _ => ⟨_, bc, fun h => absurd ?_ h, fun _ => c2⟩, fun h => absurd (hsub.mpr hs) h⟩
          rw [h1]; rfl
        · obtain ⟨J', T', c1, c2⟩ := init S 0 J 0 (by omega) ⟨fun _ => h1, fun _ => rfl⟩ ⟨fun _ _ => rfl, fun _ _ _ _ => rfl⟩ (fun t ht => absurd ht (Nat.not_lt_zero t))
          refine ⟨J', T', c1, ?_⟩
          refine r_M_tellJoints_2 hT _ _ (Nat.le_refl _) (Nat.le_refl _) ?_
          refine bb_f hnlt ⟨fun _ => ⟨_, bc, fun _ => c2, fun h => absurd ((nI_eq (b := 1) (by omega) (by omega)).mp h) h1⟩, fun h => absurd (hsub.mpr hs) h⟩
      · obtain ⟨J', T', c1, c2⟩ := ih (A + 1) J T (by omega) (by omega) (by
          rw [← hD] at hDJ ⊢
          refine ⟨hDJ.1, fun B s h0 hB hBs => ?_, fun B h0 hB hBs => ?_⟩
          · have : B ≠ A := fun e => hs (e ▸ hBs)
            exact hDJ.2.1 B s h0 (by omega) hBs
          · have : B ≠ A := fun e => hs (e ▸ hBs)
            exact hDJ.2.2 B h0 (by omega) hBs)
        refine ⟨J', T', c1, ?_⟩
        refine r_M_tellJoints_2 hT _ _ (Nat.le_refl _) (Nat.le_refl _) ?_
        refine bb_f hnlt ⟨fun h => absurd (hsub.mp h) hs, fun _ => ?_⟩
        rw [nI_1]; exact c2
  obtain ⟨J', T', c1, c2⟩ := outer all 1 I (fun _ _ => 0) (by omega) (Nat.le_refl _) (by
    rw [← hD]
    exact ⟨fun _ _ => rfl, fun B s h0 hB => absurd hB (by omega), fun B h0 hB => absurd hB (by omega)⟩)
  rw [← hD] at c1
  refine ⟨J', T', c1.1, fun A s h0 hA hs => ?_, fun A h0 hA => ?_, ?_⟩
  · have : A ≤ all := by rw [← hA]; exact Nat.and_le_right
    exact c1.2.1 A s h0 (by omega) hA hs
  · have : A ≤ all := by rw [← hA]; exact Nat.and_le_right
    exact c1.2.2 A h0 (by omega) hA
  · refine ab_C_of (by decide) rfl (Nat.le_of_ble_eq_true rfl) hT ?_
    refine r_M_tellJoints_0 hT _ (Nat.le_refl _) (Nat.le_refl _) ?_
    exact c2
end MJO
