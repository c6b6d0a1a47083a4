/-! THE ANSWERS, one by one: JOINED -/
/-- what the model's questions leave as it is, but for the code -/
def mgr (J I : Nat → Nat → Int32) : Prop := (∀ c, ¬ mscr c → J c = I c) ∧ ∀ k, mkf k → k ≠ 1 → J mx k = I mx k
theorem mgr_of {J I : Nat → Nat → Int32} (h : mfr J I) : mgr J I := ⟨h.1, fun k hk _ => h.2 k hk⟩
theorem mgr_refl {I : Nat → Nat → Int32} : mgr I I := ⟨fun _ _ => rfl, fun _ _ _ => rfl⟩
theorem mgr_trans {K J I : Nat → Nat → Int32} (h : mgr K J) (g : mgr J I) : mgr K I := ⟨fun c hc => (h.1 c hc).trans (g.1 c hc), fun k h1 h2 => (h.2 k h1 h2).trans (g.2 k h1 h2)⟩
theorem mgr_c {I : Nat → Nat → Int32} {x : Int32} : mgr (ab_up I mx 1 x) I := ⟨fun c hc => by rw [ab_up_o (fun e => hc (by rw [e]; exact Or.inl rfl))], fun k _ h1 => by rw [ab_up_i, pk_un h1]⟩
/-- the class's cells that questions use up -/
def kscr (c : Nat) : Prop := c = kx_trial ∨ c = kx_trial_first ∨ c = kx_trial_second ∨ c = kx_trial_price ∨ c = kx_trial_firm ∨ c = kx_trial_order ∨ c = kx_trialNet ∨ c = kx_trialNet_order ∨ c = kx_trialNet_piece ∨ c = kx_rings ∨ c = kx_roads ∨ c = kx_roads_lengths ∨ c = kx_roads_near ∨ c = kx_roads_flow ∨ c = kx_roads_reachedBy ∨ c = kx_likes ∨ c = kx_likes_before ∨ c = kx_likes_behind ∨ c = kx_likes_matrix ∨ c = kx_likes_rows ∨ c = kx_teller ∨ c = kx_teller_text ∨ c = kx_reader
def kfr (J I : Nat → Nat → Int32) : Prop := ∀ c, ¬ kscr c → J c = I c
theorem kfr_refl {I : Nat → Nat → Int32} : kfr I I := fun _ _ => rfl
theorem kfr_trans {K J I : Nat → Nat → Int32} (h : kfr K J) (g : kfr J I) : kfr K I := fun c hc => (h c hc).trans (g c hc)
section OP0
variable {w : ab_Wd} {d n nc ns : Nat} {I : Nat → Nat → Int32} {L : Nat → Nat → Int64}
variable {S N : Nat} {sd : Nat → Bool} {e1 e2 pr fm : Nat → Nat} {l : List Nat}
theorem mC_gr {J : Nat → Nat → Int32} (h : mgr J I) (g : mC I S N sd e1 e2 pr fm l) : mC J S N sd e1 e2 pr fm l := by
  have e1' : J mx_now = I mx_now := h.1 mx_now (by unfold mscr; decide)
  have e2' : J mx 2 = I mx 2 := h.2 2 (Or.inr (Or.inl rfl)) (by omega)
  unfold mC nm_pre at *
  rw [e1', e2']; exact g
theorem jv_walk {E : Nat → Prop} {T : Nat → Nat} (hcl : jcl e1 e2 pr E T) : ∀ {p : List Nat} {x y : Nat}, wk e1 e2 E p x y → T y ≤ T x + (p.map pr).sum := by
  intro p
  induction p with
  | nil => intro x y h; rw [h]; exact Nat.le_add_right _ _
  | cons k p ih =>
    intro x y h
    obtain ⟨h1, b, h2, h3⟩ := h
    have := ih h3
    have hk := hcl k h1
    rw [List.map_cons, List.sum_cons]
    rcases h2 with ⟨c1, c2⟩ | ⟨c1, c2⟩
    · rw [c1]; rw [c2] at this; omega
    · rw [c1]; rw [c2] at this; omega
/-- the two answers are one -/
theorem join_same {best least A : Nat} {T : Nat → Nat → Nat} (hw : ewp e1 e2 pr (sdE N sd) S) (hS : S ≤ 10) (hA : A < 2 ^ S) (h2 : 2 ≤ fa_cnt (fun x => A.testBit x) 10)
    (b1 : best ≤ 1000000) (b2 : best = 1000000 ∨ ∃ (p0 : Nat) (V : Nat → Prop), p0 < 10 ∧ AT (dsN e1 e2 pr (sdE N sd)) p0 V best ∧ ∀ x, A.testBit x = true → V x) (b3 : ∀ X F, X < 2 ^ S → A &&& X = 0 → fa_cnt (fun x => X.testBit x) 10 + 2 ≤ fa_cnt (fun x => A.testBit x) 10 → spF (fun x => A.testBit x = true ∨ X.testBit x = true) F → best ≤ wtF (dsN e1 e2 pr (sdE N sd)) F)
    (l1 : least ≤ 1000000) (l2 : least = 1000000 ∨ ∃ s, s < S ∧ least = T A s) (l3 : ∀ s, s < S → least ≤ T A s) (l4 : ∀ B, B ≠ 0 → B &&& A = B → jok e1 e2 pr (sdE N sd) S B T) : best = least := by
  have hS10 : 2 ^ S ≤ 2 ^ 10 := Nat.pow_le_pow_right (by decide) hS
  have hA0 : A ≠ 0 := fun e => by
    subst e
    have : fa_cnt (fun x => (0 : Nat).testBit x) 10 = 0 := by decide
    omega
  have jA := l4 A hA0 (Nat.and_self A)
  generalize hE : sdE N sd = E at *
  apply Nat.le_antisymm
  · by_cases hf : least = 1000000
    · omega
    · obtain ⟨s, hs, es⟩ := l2.resolve_left hf
      have tr := (jA.1 s hs).2.resolve_left (by omega)
      obtain ⟨Y, F, y1, y2, y3, y4⟩ := (Tr_st hS (dsN_self) (fun k x y t hk he => dsN_edge hw hS t hk he) (fun k x y hk he => (ed_lt hw hk he).2) tr).2.2 h2
      generalize hX : unB (fun x => if (Y x && !A.testBit x) = true then 2 ^ x else 0) 10 = X
      have tbX : ∀ i, X.testBit i = true ↔ (Y i = true ∧ A.testBit i = false) := fun i => by
        rw [← hX, unB_tb]
        constructor
        · rintro ⟨z, h1, h2⟩
          by_cases e : (Y z && !A.testBit z) = true
          · rw [if_pos e] at h2
            rw [tb_pow.mp h2]
            simpa using e
          · rw [if_neg e, Nat.zero_testBit] at h2; cases h2
        · rintro ⟨h1, h2⟩
          refine ⟨i, by have := y1 i h1; omega, ?_⟩
          rw [if_pos (by simp [h1, h2])]
          exact tb_pow.mpr rfl
      have := b3 X F (lt_tb (fun i hi => y1 i ((tbX i).mp hi).1)) (Nat.eq_of_testBit_eq fun i => by
          rw [Nat.testBit_and, Nat.zero_testBit]
          cases hb : X.testBit i with
          | false => rw [Bool.and_false]
          | true => rw [((tbX i).mp hb).2]; rfl) (by
          have : fa_cnt (fun x => X.testBit x) 10 ≤ fa_cnt Y 10 := by
            have : ∀ n, fa_cnt (fun x => X.testBit x) n ≤ fa_cnt Y n := by
              intro n
              induction n with
              | zero => exact Nat.le_refl _
              | succ n ih =>
                cases hb : X.testBit n with
                | true => rw [fa_cnt_yes (p := fun x => X.testBit x) hb, fa_cnt_yes ((tbX n).mp hb).1]; omega
                | false =>
                  rw [fa_cnt_no (p := fun x => X.testBit x) hb]
                  cases hy : Y n with
                  | true => rw [fa_cnt_yes hy]; omega
                  | false => rw [fa_cnt_no hy]; exact ih
            exact this 10
          omega) (spF_congr (fun x => by
          rw [tbX]
          constructor
          · rintro (h | h)
            · exact Or.inl h
            · cases hb : A.testBit x with
              | true => exact Or.inl rfl
              | false => exact Or.inr ⟨h, rfl⟩
          · rintro (h | h)
            · exact Or.inl h
            · exact Or.inr h.1) y3)
      omega
  · by_cases hf : best = 1000000
    · omega
    · obtain ⟨p0, V, h1, h3, h4⟩ := b2.resolve_left hf
      have subOf : ∀ B, sbs A B → B &&& A = B := fun B hB => Nat.eq_of_testBit_eq fun i => by
        rw [Nat.testBit_and]
        have := hB i
        cases hb : B.testBit i <;> simp_all
      have key := AT_joint (jv := fun A s => if s < S then T A s else 1000000) (ds := dsN e1 e2 pr E) (all := A) dsN_symm (fun x hx => by
          have hxS := tb_lt hA hx
          show (if x < S then T (2 ^ x) x else 1000000) = 0
          rw [if_pos hxS]
          refine (l4 (2 ^ x) (by have := Nat.two_pow_pos x; omega) (subOf _ (fun i hi => by rw [tb_pow.mp hi]; exact hx))).2.2.1 x rfl hxS) (fun B s t hB hs _ _ => by
          show (if t < S then T B t else 1000000) ≤ (if s < S then T B s else 1000000) + dsN e1 e2 pr E s t
          have jB := l4 B hB (subOf B hs)
          by_cases ht : t < S
          · rw [if_pos ht]
            by_cases hs' : s < S
            · rw [if_pos hs']
              rcases dsN_shv (e1 := e1) (e2 := e2) (pr := pr) (E := E) s t with g | g
              · obtain ⟨p, g1, g2⟩ := g.1
                have := jv_walk jB.2.1 g1
                omega
              · have := (jB.1 t ht).1; omega
            · rw [if_neg hs']; have := (jB.1 t ht).1; omega
          · rw [if_neg ht]
            by_cases e : s = t
            · rw [e, if_neg ht]; omega
            · rw [dsN_far hw e (by omega)]; omega) (fun B C s hB hC hd hs _ => by
          show (if s < S then T (B ||| C) s else 1000000) ≤ (if s < S then T B s else 1000000) + (if s < S then T C s else 1000000)
          by_cases hs' : s < S
          · rw [if_pos hs', if_pos hs', if_pos hs']
            have hne : B ||| C ≠ 0 := fun e => hB (Nat.eq_of_testBit_eq fun i => by
              have := congrArg (fun n => n.testBit i) e
              simp only [Nat.testBit_or, Nat.zero_testBit] at this ⊢
              cases hb : B.testBit i <;> simp_all)
            exact (l4 (B ||| C) hne (subOf _ hs)).2.2.2 B C s hB hC hd rfl hs'
          · rw [if_neg hs', if_neg hs', if_neg hs']; omega) (by omega) hA0 h1 h3 h4
      have key : (if p0 < S then T A p0 else 1000000) ≤ best := key
      by_cases hp : p0 < S
      · rw [if_pos hp] at key; exact Nat.le_trans (l3 p0 hp) key
      · rw [if_neg hp] at key; omega
theorem z_joined (hT : w.1.stackTraces = false) (hm : mC I S N sd e1 e2 pr fm l) {A : Nat} (hA : A < 2 ^ S) (h2 : 2 ≤ fa_cnt (fun x => A.testBit x) 10) :
    ∃ (J : Nat → Nat → Int32) (least : Nat) (T : Nat → Nat → Nat), mgr J I ∧ J mx 1 = 0 ∧ least ≤ 1000000 ∧ (least = 1000000 ∨ ∃ s, s < S ∧ least = T A s) ∧ (∀ s, s < S → least ≤ T A s) ∧ (∀ B, B ≠ 0 → B &&& A = B → jok e1 e2 pr (sdE N sd) S B T) ∧ ab_PU w (d + 3) mt_M_joined [.ref mx, .int (nI A)] I L n nc ns (shI least) J := by
  have p1 := hm.1.1
  have p3 := hm.1.2.2.1
  have hS10 : 2 ^ S ≤ 2 ^ 10 := Nat.pow_le_pow_right (by decide) p3
  have hA0 : A ≠ 0 := fun e => by
    subst e
    have : fa_cnt (fun x => (0 : Nat).testBit x) 10 = 0 := by decide
    omega
  obtain ⟨J, T, a1, a2, a3, a4⟩ := z_tellJoints (w := w) (d := d) (n := n) (nc := nc) (ns := ns) (L := L) hT (mC_gr (mgr_c (x := 0)) hm) hA
  have jA := a3 A hA0 (Nat.and_self A)
  have r2 : J mx 2 = nI S := by rw [a1 _ (by decide), ab_up_i, pk_un (by omega)]; exact p1
  have bc := bc_ok (w := w) (d := d + 2) (n := n) (nc := nc) (ns := ns) (I := ab_up I mx 1 0) (L := L) hT (A := A) (by omega)
  have hc10 : fa_cnt (fun x => A.testBit x) 10 ≤ 10 := fa_cnt_le _ _
  have loop : ∀ m s least, s + m = S → least ≤ 1000000 → (least = 1000000 ∨ ∃ t, t < S ∧ least = T A t) → (∀ t, t < s → least ≤ T A t) → ∃ least', least' ≤ 1000000 ∧ (least' = 1000000 ∨ ∃ t, t < S ∧ least' = T A t) ∧ (∀ t, t < S → least' ≤ T A t) ∧ ab_E w ((d + 2) + 1) mt_M_joined 48 [.ref mx, .int (nI A), .int (nI least), .int (nI s)] [] (J, L, ab_RR, n, nc, ns) (.inl (some (.int (shI least'))), (J, L, ab_RR, n, nc, ns)) := by
    intro m
    induction m with
    | zero =>
      intro s least hs h1 h3 h4
      have e : s = S := by omega
      subst e
      refine ⟨least, h1, h3, h4, ?_⟩
      refine r_M_joined_48 hT _ _ _ (Nat.le_refl _) (Nat.le_refl _) ?_
      refine bb_t (by rw [r2]; exact nI_le (Nat.le_refl _) (by omega)) ?_
      unfold shI
      by_cases e : 1000000 ≤ least
      · rw [if_pos e]
        exact ⟨fun h => by have := (nI_ltI (b := 1000000) (by omega) (by omega)).mp h; omega, fun _ => rfl⟩
      · rw [if_neg e]
        exact ⟨fun _ => rfl, fun h => absurd ((nI_ltI (b := 1000000) (by omega) (by omega)).mpr (by omega)) h⟩
    | succ m ih =>
      intro s least hs h1 h3 h4
      have hSs : ¬ S ≤ s := by omega
      have v := a2 A s hA0 (Nat.and_self A) (by omega)
      have lv := (jA.1 s (by omega)).1
      obtain ⟨least', g1, g2, g3, g4⟩ := ih (s + 1) (min least (T A s)) (by omega) (Nat.le_trans (Nat.min_le_left _ _) h1) (by
        by_cases e : least ≤ T A s
        · rw [Nat.min_eq_left e]; exact h3
        · rw [Nat.min_eq_right (by omega)]; exact Or.inr ⟨s, by omega, rfl⟩) (fun t ht => by
        by_cases e : t = s
        · rw [e]; exact Nat.min_le_right _ _
        · exact Nat.le_trans (Nat.min_le_left _ _) (h4 t (by omega)))
      refine ⟨least', g1, g2, g3, ?_⟩
      refine r_M_joined_48 hT _ _ _ (Nat.le_refl _) (Nat.le_refl _) ?_
      simp (disch := first | omega | decide) only [r2, hSs, v, ab_min_nI, nl_add1, nl_add2, nl_mul1, nl_mul2, nl_sub1, nl_lt1, nl_lt2, nl_le1, nl_le2, nl_eq1, nl_eq2, nl_m1, nl_m2, nl_inT, nI_add, nI_mul, nI_leI, nI_ltI, nI_eq, nI_clamp, nl_bit, oI_n, oI_s, oI_m1, true_and, and_true, eq_self, Bool.false_eq_true, not_false_eq_true, not_true_eq_false, false_implies, true_implies, implies_true, forall_const, Nat.not_lt_zero, ab_row_eq, ab_row_ne, ab_up_i, ab_up_o, pk_us, pk_un, ab_row_row]
      exact g4
  obtain ⟨least', g1, g2, g3, g4⟩ := loop S 0 1000000 (by omega) (Nat.le_refl _) (Or.inl rfl) (fun t ht => absurd ht (Nat.not_lt_zero t))
  refine ⟨J, least', T, mgr_trans ⟨fun c hc => a1 c (fun e => hc (by rw [e]; unfold mscr; decide)), fun k _ _ => by rw [a1 _ (by decide)]⟩ mgr_c, by rw [a1 _ (by decide), ab_up_i, pk_us], g1, g2, g3, a3, ?_⟩
  have sp := sh_pow S p3
  have hp := Nat.two_pow_pos S
  have e1 : nI (2 ^ S) - 1 = nI (2 ^ S - 1) := nI_sub (b := 1) (by omega)
  refine ab_C_of (by decide) rfl (Nat.le_of_ble_eq_true rfl) hT ?_
  refine r_M_joined_0 hT _ (Nat.le_refl _) (Nat.le_refl _) ?_
  rw [p1, sp, e1]
  refine bb_f (nI_pos (by omega)) (bb_f (fun h => by have := (nI_ltI (by omega) (by omega)).mp h; omega) ⟨_, bc, fun _ => ⟨J, a4, g4⟩, fun h => absurd ((nI_leI (a := 2) (by omega) (by omega)).mpr h2) h⟩)
end OP0
