/-! THE MODEL'S NET: joins, netOf -/
def jn_row (f : Nat → Int32) (pc : Nat → Nat) (u v i : Nat) : Nat → Int32 := fun x => if x < i then nI (mg pc u v x) else f x
theorem z_joins {w : ab_Wd} {d n nc ns : Nat} {I : Nat → Nat → Int32} {L : Nat → Nat → Int64} (hT : w.1.stackTraces = false) {S : Nat} {pc : Nat → Nat} {a b : Nat} (hS : I mx 2 = nI S) (h10 : S ≤ 10) (hI : ∀ x, x < S → I mx_piece x = nI (pc x)) (hle : ∀ x, pc x ≤ x) (ha : a < S) (hb : b < S) :
    ab_U w (d + 1) mt_M_joins [.ref mx, .int (nI a), .int (nI b)] I L n nc ns (ab_row I mx_piece (jn_row (I mx_piece) pc (pc a) (pc b) S)) := by
  refine ab_C_of (by decide) rfl (Nat.le_of_ble_eq_true rfl) hT ?_
  have ca := nI_clamp (n := a) (by omega)
  have cb := nI_clamp (n := b) (by omega)
  have e1 : I mx_piece (nI a).toNatClampNeg = nI (pc a) := by rw [ca]; exact hI a ha
  have e2 : I mx_piece (nI b).toNatClampNeg = nI (pc b) := by rw [cb]; exact hI b hb
  have la := hle a
  have lb := hle b
  generalize hu : pc a = u at *
  generalize hv : pc b = v at *
  have e3 : ab_min32 (nI u) (nI v) = nI (min u v) := ab_min_nI (by omega) (by omega)
  have e4 : ab_max32 (nI u) (nI v) = nI (max u v) := ab_max_nI (by omega) (by omega)
  have loop : ∀ k i, i + k = S → ab_E w (d + 1) mt_M_joins 36 [.ref mx, .int (nI a), .int (nI b), .int (nI (min u v)), .int (nI (max u v)), .int (nI i)] [] (ab_row I mx_piece (jn_row (I mx_piece) pc u v i), L, ab_RR, n, nc, ns) (.inl none, (ab_row I mx_piece (jn_row (I mx_piece) pc u v S), L, ab_RR, n, nc, ns)) := by
    intro k
    induction k with
    | zero =>
      intro i hi
      have e9 : i = S := by omega
      subst e9
      refine q_M_joins_36 _ _ _ _ (nI i) (Nat.le_refl _) (Nat.le_refl _) ⟨fun _ => rfl, fun h => absurd ?_ h⟩
      rw [ab_row_ne (by decide), hS]
      exact nI_le (Nat.le_refl _) (by omega)
    | succ k ih =>
      intro i hi
      have ci := nI_clamp (n := i) (by omega)
      have nx := ih (i + 1) (by omega)
      rw [← nI_1] at nx
      have hr : ab_row I mx_piece (jn_row (I mx_piece) pc u v i) mx_piece (nI i).toNatClampNeg = nI (pc i) := by
        rw [ab_row_eq, ci]
        unfold jn_row
        rw [if_neg (by omega)]
        exact hI i (by omega)
      have li := hle i
      refine q_M_joins_36 _ _ _ _ (nI i) (Nat.le_refl _) (Nat.le_refl _) ⟨fun h => absurd h ?_, fun _ => ⟨vp_in_nI (by omega) (by omega), fun h => ?_, fun h => ?_⟩⟩
      · rw [ab_row_ne (by decide), hS]
        exact nI_ge (by omega) (by omega)
      · rw [hr] at h
        refine q_M_joins_65 _ _ _ _ (nI i) (Nat.le_refl _) (Nat.le_refl _) ?_
        have e9 : jn_row (I mx_piece) pc u v i = jn_row (I mx_piece) pc u v (i + 1) := by
          funext x
          unfold jn_row
          by_cases e : x = i
          · subst e
            rw [if_neg (by omega), if_pos (by omega)]
            unfold mg
            rw [if_neg (fun g => h (by rw [g]))]
            exact hI x (by omega)
          · by_cases g : x < i
            · rw [if_pos g, if_pos (by omega)]
            · rw [if_neg g, if_neg (by omega)]
        rw [e9]
        exact nx
      · rw [hr] at h
        refine q_M_joins_65 _ _ _ _ (nI i) (Nat.le_refl _) (Nat.le_refl _) ?_
        have hp : pc i = max u v := (nI_eq (by omega) (by omega)).mp h
        have e9 : upd (jn_row (I mx_piece) pc u v i) i (nI (min u v)) = jn_row (I mx_piece) pc u v (i + 1) := by
          funext x
          by_cases e : x = i
          · subst e
            rw [pk_us]
            unfold jn_row
            rw [if_pos (by omega)]
            unfold mg
            rw [if_pos hp]
          · rw [pk_un e]
            unfold jn_row
            by_cases g : x < i
            · rw [if_pos g, if_pos (by omega)]
            · rw [if_neg g, if_neg (by omega)]
        rw [ab_up_row, ab_row_row, ab_row_eq, ci, e9]
        exact nx
  refine q_M_joins_0 (nI a) (nI b) (Nat.le_refl _) (Nat.le_refl _) ⟨vp_in_nI (by omega) (by omega), vp_in_nI (by omega) (by omega), ?_⟩
  rw [e1, e2, e3, e4]
  have := loop S 0 (by omega)
  have e0 : jn_row (I mx_piece) pc u v 0 = I mx_piece := by funext x; unfold jn_row; rw [if_neg (Nat.not_lt_zero x)]
  rw [e0, ab_row_id] at this
  exact this
/-- what the model's row tells of the cables -/
def nm_pre (I : Nat → Nat → Int32) (S N : Nat) (e1 e2 pr : Nat → Nat) (l : List Nat) : Prop :=
  I mx 2 = nI S ∧ I mx_now 0 = nI N ∧ S ≤ 10 ∧ N ≤ 24 ∧ od pr N l ∧ ∀ k, k < N → I mx_now (3 + k) = nI (e1 k) ∧ I mx_now (27 + k) = nI (e2 k) ∧ I mx_now (51 + k) = nI (pr k) ∧ e1 k < S ∧ e2 k < S ∧ pr k ≤ 999
def nm_st (J I : Nat → Nat → Int32) (S : Nat) (pr : Nat → Nat) (s : List Nat × (Nat → Nat)) : Prop :=
  (∀ a, a ≠ mx → a ≠ mx_piece → a ≠ mx_taken → J a = I a) ∧ (∀ k, k ≠ 21 → k ≠ 22 → J mx k = I mx k) ∧ J mx 21 = nI s.1.length ∧ J mx 22 = nI ((s.1.map pr).sum) ∧ (∀ j, j < s.1.length → J mx_taken j = nI (s.1.getD j 0)) ∧ ∀ x, x < S → J mx_piece x = nI (s.2 x)
/-- the cheapest so far of those that are left -/
def nm_best (pr : Nat → Nat) (R : List Nat) (k : Nat) (b : Int32) : Prop := (b = -1 ∧ ∀ x ∈ R, ¬ x < k) ∨ ∃ c, b = nI c ∧ c ∈ R ∧ c < k ∧ ∀ x ∈ R, x < k → x = c ∨ ch pr c x
theorem nm_step {J I : Nat → Nat → Int32} {S : Nat} {pr : Nat → Nat} {s : List Nat × (Nat → Nat)} {c u v : Nat} (h : nm_st J I S pr s) (hl : s.1.length < 24) {J1 : Nat → Nat → Int32} (hJ1 : J1 = ab_row J mx_piece (jn_row (J mx_piece) s.2 u v S)) :
    nm_st (ab_up (ab_up (ab_up J1 mx_taken (J1 mx 21).toNatClampNeg (nI c)) mx 21 (J1 mx 21 + 1)) mx 22 (J1 mx 22 + nI (pr c))) I S pr (s.1 ++ [c], mg s.2 u v) := by
  subst hJ1
  obtain ⟨g1, g2, g3, g4, g5, g6⟩ := h
  have r1 : ∀ k, (ab_row J mx_piece (jn_row (J mx_piece) s.2 u v S)) mx k = J mx k := fun k => by rw [ab_row_ne (by decide)]
  have cl : (nI s.1.length).toNatClampNeg = s.1.length := nI_clamp (by omega)
  refine ⟨fun a b1 b2 b3 => ?_, fun k k1 k2 => ?_, ?_, ?_, fun j hj => ?_, fun x hx => ?_⟩
  · rw [ab_up_o b1, ab_up_o b1, ab_up_o b3, ab_row_ne b2]
    exact g1 a b1 b2 b3
  · rw [ab_up_i, pk_un k2, ab_up_i, pk_un k1, ab_up_o (by decide), r1]
    exact g2 k k1 k2
  · rw [ab_up_i, pk_un (by omega), ab_up_i, pk_us, r1, g3, List.length_append]
    exact nI_1 _
  · rw [ab_up_i, pk_us, r1, g4, nI_add, List.map_append, List.sum_append]
    simp
  · rw [ab_up_o (by decide), ab_up_o (by decide), ab_up_i, ab_row_ne (by decide), r1, g3, cl]
    rw [List.length_append] at hj
    simp only [List.length_singleton] at hj
    by_cases e : j = s.1.length
    · subst e
      rw [pk_us, List.getD_eq_getElem?_getD, List.getElem?_append_right (Nat.le_refl _)]
      simp
    · rw [pk_un e, g5 j (by omega), List.getD_eq_getElem?_getD, List.getD_eq_getElem?_getD, List.getElem?_append_left (by omega)]
  · rw [ab_up_o (by decide), ab_up_o (by decide), ab_up_o (by decide), ab_row_eq]
    unfold jn_row
    rw [if_pos hx]
theorem nm_bnext {pr : Nat → Nat} {R : List Nat} {k : Nat} {b : Int32} (h : nm_best pr R k b) (hk : k ∉ R) : nm_best pr R (k + 1) b := by
  rcases h with ⟨h1, h2⟩ | ⟨c, h1, h2, h3, h4⟩
  · refine Or.inl ⟨h1, fun x hx hlt => ?_⟩
    by_cases e : x = k
    · subst e; exact hk hx
    · exact h2 x hx (by omega)
  · refine Or.inr ⟨c, h1, h2, by omega, fun x hx hlt => ?_⟩
    by_cases e : x = k
    · subst e; exact absurd hx hk
    · exact h4 x hx (by omega)
theorem nm_bkeep {pr : Nat → Nat} {R : List Nat} {k c : Nat} (h2 : c ∈ R) (h3 : c < k) (h4 : ∀ x ∈ R, x < k → x = c ∨ ch pr c x) (hn : ¬ ch pr k c) : nm_best pr R (k + 1) (nI c) := by
  refine Or.inr ⟨c, rfl, h2, by omega, fun x hx hlt => ?_⟩
  by_cases e : x = k
  · subst e; exact Or.inr ((ch_total (by omega)).resolve_left hn)
  · exact h4 x hx (by omega)
theorem nm_btake {pr : Nat → Nat} {R : List Nat} {k : Nat} (hk : k ∈ R) (h : ∀ x ∈ R, x < k → ch pr k x) : nm_best pr R (k + 1) (nI k) := by
  refine Or.inr ⟨k, rfl, hk, by omega, fun x hx hlt => ?_⟩
  by_cases e : x = k
  · exact Or.inl e
  · exact Or.inr (h x hx (by omega))
theorem z_netOf {w : ab_Wd} {d n nc ns : Nat} {I : Nat → Nat → Int32} {L : Nat → Nat → Int64} (hT : w.1.stackTraces = false) {S N : Nat} {e1 e2 pr : Nat → Nat} {l : List Nat} {am : Nat → Bool} {v : Int32} (hp : nm_pre I S N e1 e2 pr l) (hv : ∀ k, k < 32 → bt v k = am k) (ham : ∀ k, am k = true → k < N) :
    ∃ (J : Nat → Nat → Int32) (r : Int32), nm_st J I S pr (kr e1 e2 (l.filter am)) ∧ (∀ k, k < 32 → bt r k = decide (k ∈ (kr e1 e2 (l.filter am)).1)) ∧ ab_PU w (d + 2) mt_M_netOf [.ref mx, .int v] I L n nc ns r J := by
  obtain ⟨p1, p2, p3, p4, p5, p6⟩ := hp
  have hF : ∀ k, k ∈ l.filter am ↔ am k = true := fun k => by
    rw [List.mem_filter, p5.2]
    exact ⟨fun h => h.2, fun h => ⟨ham k h, h⟩⟩
  have hFp : (l.filter am).Pairwise (ch pr) := p5.1.filter am
  have hFw : ew e1 e2 S (l.filter am) := fun k hk => ⟨(p6 k (ham k ((hF k).mp hk))).2.2.2.1, (p6 k (ham k ((hF k).mp hk))).2.2.2.2.1⟩
  generalize l.filter am = F at *
  have main : ∀ (R A : List Nat) (J : Nat → Nat → Int32) (v2 v3 v4 : Int32), A ++ R = F → (∀ k, k < 32 → bt v2 k = decide (k ∈ R)) → (∀ k, k < 32 → bt v3 k = decide (k ∈ (kr e1 e2 A).1)) → nm_st J I S pr (kr e1 e2 A) →
      ∃ (J' : Nat → Nat → Int32) (r : Int32), nm_st J' I S pr (kr e1 e2 F) ∧ (∀ k, k < 32 → bt r k = decide (k ∈ (kr e1 e2 F).1)) ∧ ab_E w (d + 2) mt_M_netOf 41 [.ref mx, .int v, .int v2, .int v3, .int v4, .null] [] (J, L, ab_RR, n, nc, ns) (.inl (some (.int r)), (J', L, ab_RR, n, nc, ns)) := by
    intro R
    induction R with
    | nil =>
      intro A J v2 v3 v4 hA h2 h3 hJ
      rw [List.append_nil] at hA
      subst hA
      refine ⟨J, v3, hJ, h3, q_M_netOf_41 v v2 v3 v4 (Nat.le_refl _) (Nat.le_refl _) ⟨fun _ => rfl, fun h => absurd ?_ h⟩⟩
      exact b_ext fun i hi => by rw [h2 i hi, b_0]; rfl
    | cons c R ih =>
      intro A J v2 v3 v4 hA h2 h3 hJ
      have hcF : c ∈ F := by rw [← hA]; simp
      have hcN : c < N := ham c ((hF c).mp hcF)
      have hRN : ∀ x ∈ c :: R, x < N := fun x hx => ham x ((hF x).mp (by rw [← hA]; exact List.mem_append_right _ hx))
      obtain ⟨q1, q2, q3, q4, q5, q6⟩ := p6 c hcN
      have hAw : ew e1 e2 S A := fun k hk => hFw k (by rw [← hA]; exact List.mem_append_left _ hk)
      have hhead : ∀ x ∈ R, ch pr c x := by
        rw [← hA] at hFp
        exact (List.pairwise_cons.mp (List.pairwise_append.mp hFp).2.1).1
      have hnR : c ∉ R := fun h => ch_irrefl (hhead c h)
      obtain ⟨z1, z2, z3, z4⟩ := kr_kp A hAw
      have hcnt := kr_cnt A hAw
      have cc : ∀ m, m + c < 2 ^ 31 → (nI (m + c)).toNatClampNeg = m + c := fun m hm => nI_clamp hm
      have fN := hJ.1 mx_now (by decide) (by decide) (by decide)
      have a3 : (3 : Int32) + nI c = nI (3 + c) := nI_add 3 c
      have a27 : (27 : Int32) + nI c = nI (27 + c) := nI_add 27 c
      have a51 : (51 : Int32) + nI c = nI (51 + c) := nI_add 51 c
      have r3 : J mx_now ((3 : Int32) + nI c).toNatClampNeg = nI (e1 c) := by rw [a3, cc 3 (by omega), fN]; exact q1
      have r27 : J mx_now ((27 : Int32) + nI c).toNatClampNeg = nI (e2 c) := by rw [a27, cc 27 (by omega), fN]; exact q2
      have ce1 := nI_clamp (n := e1 c) (by omega)
      have ce2 := nI_clamp (n := e2 c) (by omega)
      have rp1 : J mx_piece (J mx_now ((3 : Int32) + nI c).toNatClampNeg).toNatClampNeg = nI ((kr e1 e2 A).2 (e1 c)) := by rw [r3, ce1]; exact hJ.2.2.2.2.2 _ q4
      have rp2 : J mx_piece (J mx_now ((27 : Int32) + nI c).toNatClampNeg).toNatClampNeg = nI ((kr e1 e2 A).2 (e2 c)) := by rw [r27, ce2]; exact hJ.2.2.2.2.2 _ q5
      have y1 := z2 (e1 c)
      have y2 := z2 (e2 c)
      have hA2 : (A ++ [c]) ++ R = F := by rw [← hA]; simp
      have hleft : ∀ k, k < 32 → bt (v2 &&& (((1 : Int32) <<< (nI c &&& 31)) ^^^ (-1))) k = decide (k ∈ R) := by
        intro k hk
        rw [b_and, h2 k hk, ab_bnot _ hk, ab_sh1 (by omega) hk]
        by_cases e : k = c
        · subst e; simp [hnR]
        · simp [e]
      obtain ⟨J1, hJ1⟩ : ∃ J1, J1 = ab_row J mx_piece (jn_row (J mx_piece) (kr e1 e2 A).2 ((kr e1 e2 A).2 (e1 c)) ((kr e1 e2 A).2 (e2 c)) S) := ⟨_, rfl⟩
      -- what comes behind this cable
      obtain ⟨J', r, g1, g2, g3⟩ : ∃ (J' : Nat → Nat → Int32) (r : Int32), nm_st J' I S pr (kr e1 e2 F) ∧ (∀ k, k < 32 → bt r k = decide (k ∈ (kr e1 e2 F).1)) ∧ (((¬ (kr e1 e2 A).2 (e1 c) = (kr e1 e2 A).2 (e2 c)) → ab_E w (d + 2) mt_M_netOf 41 [.ref mx, .int v, .int (v2 &&& (((1 : Int32) <<< (nI c &&& 31)) ^^^ (-1))), .int (v3 ||| ((1 : Int32) <<< (nI c &&& 31))), .int (nI c), .null] [] (ab_up (ab_up (ab_up J1 mx_taken (J1 mx 21).toNatClampNeg (nI c)) mx 21 (J1 mx 21 + 1)) mx 22 (J1 mx 22 + nI (pr c)), L, ab_RR, n, nc, ns) (.inl (some (.int r)), (J', L, ab_RR, n, nc, ns))) ∧
          ((kr e1 e2 A).2 (e1 c) = (kr e1 e2 A).2 (e2 c) → ab_E w (d + 2) mt_M_netOf 41 [.ref mx, .int v, .int (v2 &&& (((1 : Int32) <<< (nI c &&& 31)) ^^^ (-1))), .int v3, .int (nI c), .null] [] (J, L, ab_RR, n, nc, ns) (.inl (some (.int r)), (J', L, ab_RR, n, nc, ns)))) := by
        by_cases he : (kr e1 e2 A).2 (e1 c) = (kr e1 e2 A).2 (e2 c)
        · have hks : kr e1 e2 (A ++ [c]) = kr e1 e2 A := by rw [kr_snoc]; unfold kst; rw [if_pos he]
          obtain ⟨J', r, g1, g2, g3⟩ := ih (A ++ [c]) J _ v3 (nI c) hA2 hleft (by rw [hks]; exact h3) (by rw [hks]; exact hJ)
          exact ⟨J', r, g1, g2, fun h => absurd he h, fun _ => g3⟩
        · have hks : kr e1 e2 (A ++ [c]) = ((kr e1 e2 A).1 ++ [c], mg (kr e1 e2 A).2 ((kr e1 e2 A).2 (e1 c)) ((kr e1 e2 A).2 (e2 c))) := by rw [kr_snoc]; unfold kst; rw [if_neg he]
          obtain ⟨J', r, g1, g2, g3⟩ := ih (A ++ [c]) _ _ (v3 ||| ((1 : Int32) <<< (nI c &&& 31))) (nI c) hA2 hleft (by
            rw [hks]
            intro k hk
            rw [b_or, h3 k hk, ab_sh1 (by omega) hk]
            simp only [List.mem_append, List.mem_singleton]
            rw [← Bool.decide_or]) (by rw [hks]; exact nm_step hJ (by omega) hJ1)
          exact ⟨J', r, g1, g2, fun _ => g3, fun h => absurd h he⟩
      refine ⟨J', r, g1, g2, q_M_netOf_41 v v2 v3 v4 (Nat.le_refl _) (Nat.le_refl _) ⟨fun h => ?_, fun _ => ?_⟩⟩
      · have := h2 c (by omega)
        rw [h, b_0] at this
        simp at this
      · have scan : ∀ m k b, k + m = N → nm_best pr (c :: R) k b → ab_E w (d + 2) mt_M_netOf 51 [.ref mx, .int v, .int v2, .int v3, .int b, .int (nI k)] [] (J, L, ab_RR, n, nc, ns) (.inl (some (.int r)), (J', L, ab_RR, n, nc, ns)) := by
          intro m
          induction m with
          | zero =>
            intro k b hk hb
            have e9 : k = N := by omega
            subst e9
            have hbc : b = nI c := by
              rcases hb with ⟨-, h⟩ | ⟨b', h, hb1, -, hb3⟩
              · exact absurd (hRN c List.mem_cons_self) (h c List.mem_cons_self)
              · rcases hb3 c List.mem_cons_self hcN with e | e
                · rw [h, ← e]
                · rcases List.mem_cons.mp hb1 with e2 | e2
                  · rw [h, e2]
                  · exact absurd e (ch_asymm (hhead b' e2))
            subst hbc
            refine q_M_netOf_51 v v2 v3 (nI c) (nI k) (Nat.le_refl _) (Nat.le_refl _) ⟨_, z_many hT, fun _ => ⟨?_, ?_, ?_, ?_, fun hne => ?_, fun heq => ?_⟩, fun h => absurd ?_ h⟩
            · rw [a3]; exact vp_in_nI (by omega) (by omega)
            · rw [r3]; exact vp_in_nI (by omega) (by omega)
            · rw [a27]; exact vp_in_nI (by omega) (by omega)
            · rw [r27]; exact vp_in_nI (by omega) (by omega)
            · rw [rp1, rp2] at hne
              have hne' : ¬ (kr e1 e2 A).2 (e1 c) = (kr e1 e2 A).2 (e2 c) := fun h => hne (by rw [h])
              have hj := z_joins (d := d) (n := n) (nc := nc) (ns := ns) (L := L) hT (S := S) (pc := (kr e1 e2 A).2) (a := e1 c) (b := e2 c) (I := J) (by rw [hJ.2.1 2 (by omega) (by omega)]; exact p1) p3 hJ.2.2.2.2.2 z2 q4 q5
              refine ⟨J1, ?_, ?_, nI (pr c), ?_, g3.1 hne'⟩
              · rw [r3, r27, hJ1]; exact hj
              · rw [hJ1, ab_row_ne (by decide), hJ.2.2.1]; exact vp_in_nI (by omega) (by omega)
              · have hval : ab_up (ab_up J1 mx_taken (J1 mx 21).toNatClampNeg (nI c)) mx 21 (J1 mx 21 + 1) mx_now ((51 : Int32) + nI c).toNatClampNeg = nI (pr c) := by rw [ab_up_o (by decide), ab_up_o (by decide), hJ1, ab_row_ne (by decide), a51, cc 51 (by omega), fN]; exact q3
                have := z_priceOf (d := d + 1) (n := n) (nc := nc) (ns := ns) (L := L) (I := ab_up (ab_up J1 mx_taken (J1 mx 21).toNatClampNeg (nI c)) mx 21 (J1 mx 21 + 1)) hT (nI c) (by rw [a51]; exact vp_in_nI (by omega) (by omega))
                rw [hval] at this
                exact this
            · rw [rp1, rp2] at heq
              exact g3.2 ((nI_eq (by omega) (by omega)).mp heq)
            · rw [fN, p2]
              exact nI_le (Nat.le_refl _) (by omega)
          | succ m ihm =>
            intro k b hk hb
            have hkc : k < 32 := by omega
            have step : ∀ b', nm_best pr (c :: R) (k + 1) b' → ab_E w (d + 2) mt_M_netOf 90 [.ref mx, .int v, .int v2, .int v3, .int b', .int (nI k)] [] (J, L, ab_RR, n, nc, ns) (.inl (some (.int r)), (J', L, ab_RR, n, nc, ns)) := by
              intro b' hb'
              refine q_M_netOf_90 v v2 v3 b' (nI k) (Nat.le_refl _) (Nat.le_refl _) ?_
              rw [nI_1]
              exact ihm (k + 1) b' (by omega) hb'
            have take : (∀ x ∈ c :: R, x < k → ch pr k x) → k ∈ c :: R → ab_E w (d + 2) mt_M_netOf 86 [.ref mx, .int v, .int v2, .int v3, .int b, .int (nI k)] [] (J, L, ab_RR, n, nc, ns) (.inl (some (.int r)), (J', L, ab_RR, n, nc, ns)) := fun h hk => q_M_netOf_86 v v2 v3 b (nI k) (Nat.le_refl _) (Nat.le_refl _) (step (nI k) (nm_btake hk h))
            refine q_M_netOf_51 v v2 v3 b (nI k) (Nat.le_refl _) (Nat.le_refl _) ⟨_, z_many hT, fun h => absurd h ?_, fun _ => ⟨_, z_has hT v2 (nI k), fun h => ?_, fun h => ?_⟩⟩
            · rw [fN, p2]
              exact nI_ge (by omega) (by omega)
            · have hkR : k ∉ c :: R := by
                intro hin
                have : bt v2 k = true := by rw [h2 k hkc]; simpa using hin
                rw [if_pos ((ab_bit_iff v2 hkc).mpr this)] at h
                exact absurd h (by decide)
              exact step b (nm_bnext hb hkR)
            · have hkR : k ∈ c :: R := by
                by_cases g : ((v2 >>> (nI k &&& 31)) &&& 1) = 1
                · have := (ab_bit_iff v2 hkc).mp g
                  rw [h2 k hkc] at this
                  exact of_decide_eq_true this
                · rw [if_neg g] at h
                  exact absurd rfl h
              rcases hb with ⟨hb1, hb2⟩ | ⟨b', hb1, hb2, hb3, hb4⟩
              · exact ⟨fun _ => take (fun x hx hlt => absurd hlt (hb2 x hx)) hkR, fun h => absurd hb1 h⟩
              · subst hb1
                have hbN := hRN b' hb2
                refine ⟨fun h => absurd h (nI_m1 (by omega)), fun _ => ?_⟩
                obtain ⟨rc, hc1, hc2⟩ := z_isCheaper (d := d) (n := n) (nc := nc) (ns := ns) (I := J) (L := L) hT (pr := pr) (a := k) (b := b') (by omega) (by omega) (by rw [fN]; exact (p6 k (by omega)).2.2.1) (by rw [fN]; exact (p6 b' hbN).2.2.1) (by have := (p6 k (by omega)).2.2.2.2.2; omega) (by have := (p6 b' hbN).2.2.2.2.2; omega)
                refine ⟨rc, hc1, fun h => ?_, fun h => ?_⟩
                · rcases hc2 with ⟨-, e⟩ | ⟨hn, -⟩
                  · rw [e] at h; exact absurd h (by decide)
                  · exact step (nI b') (nm_bkeep hb2 hb3 hb4 hn)
                · rcases hc2 with ⟨hy, -⟩ | ⟨-, e⟩
                  · refine take (fun x hx hlt => ?_) hkR
                    rcases hb4 x hx hlt with e | e
                    · rw [e]; exact hy
                    · exact ch_trans hy e
                  · exact absurd e h
        exact scan N 0 (-1) (by omega) (Or.inl ⟨rfl, fun x _ h => absurd h (Nat.not_lt_zero x)⟩)
  have start : ∀ k i, i + k = S → ∀ (J : Nat → Nat → Int32) (res : ab_Re), J mx 2 = nI S → nc ≤ res.2.2.2.2.2.1 → ns ≤ res.2.2.2.2.2.2 → ab_E w (d + 2) mt_M_netOf 41 [.ref mx, .int v, .int v, .int 0, .int (nI S), .null] [] (ab_row J mx_piece (fun x => if x < S then nI x else J mx_piece x), L, ab_RR, n, nc, ns) res → ab_E w (d + 2) mt_M_netOf 17 [.ref mx, .int v, .int v, .int 0, .int (nI i), .null] [] (ab_row J mx_piece (fun x => if x < i then nI x else J mx_piece x), L, ab_RR, n, nc, ns) res := by
    intro k
    induction k with
    | zero =>
      intro i hi J res hS hc hs kk
      have e9 : i = S := by omega
      subst e9
      refine q_M_netOf_17 v v 0 (nI i) hc hs ⟨fun _ => kk, fun h => absurd ?_ h⟩
      rw [ab_row_ne (by decide), hS]
      exact nI_le (Nat.le_refl _) (by omega)
    | succ k ih =>
      intro i hi J res hS hc hs kk
      have ci := nI_clamp (n := i) (by omega)
      have nx := ih (i + 1) (by omega) J res hS hc hs kk
      refine q_M_netOf_17 v v 0 (nI i) hc hs ⟨fun h => absurd h ?_, fun _ => ⟨vp_in_nI (by omega) (by omega), ?_⟩⟩
      · rw [ab_row_ne (by decide), hS]
        exact nI_ge (by omega) (by omega)
      · rw [nI_1, ab_up_row, ab_row_row, ab_row_eq, ci]
        have : upd (fun x => if x < i then nI x else J mx_piece x) i (nI i) = fun x => if x < i + 1 then nI x else J mx_piece x := by
          funext x
          by_cases e : x = i
          · subst e; rw [pk_us, if_pos (by omega)]
          · rw [pk_un e]
            by_cases g : x < i
            · rw [if_pos g, if_pos (by omega)]
            · rw [if_neg g, if_neg (by omega)]
        rw [this]
        exact nx
  generalize hJ0 : ab_up (ab_up I mx 21 0) mx 22 0 = J0
  have hS0 : J0 mx 2 = nI S := by rw [← hJ0, ab_up_i, pk_un (by omega), ab_up_i, pk_un (by omega)]; exact p1
  have hst : nm_st (ab_row J0 mx_piece (fun x => if x < S then nI x else J0 mx_piece x)) I S pr (kr e1 e2 []) := by
    rw [kr_nil, ← hJ0]
    refine ⟨fun a b1 b2 b3 => ?_, fun k k1 k2 => ?_, ?_, ?_, fun j hj => absurd hj (Nat.not_lt_zero j), fun x hx => ?_⟩
    · rw [ab_row_ne b2, ab_up_o b1, ab_up_o b1]
    · rw [ab_row_ne (by decide), ab_up_i, pk_un k2, ab_up_i, pk_un k1]
    · rw [ab_row_ne (by decide), ab_up_i, pk_un (by omega), ab_up_i, pk_us]; rfl
    · rw [ab_row_ne (by decide), ab_up_i, pk_us]; rfl
    · rw [ab_row_eq, if_pos hx]; rfl
  obtain ⟨J', r, g1, g2, g3⟩ := main F [] _ v 0 (nI S) (by simp) (fun k hk => by
    rw [hv k hk]
    cases h : am k with
    | true => rw [decide_eq_true ((hF k).mpr h)]
    | false => rw [decide_eq_false (fun g => by rw [(hF k).mp g] at h; cases h)]) (fun k hk => by rw [b_0, kr_nil]; rfl) hst
  refine ⟨J', r, g1, g2, ab_C_of (by decide) rfl (Nat.le_of_ble_eq_true rfl) hT ?_⟩
  refine q_M_netOf_0 v (Nat.le_refl _) (Nat.le_refl _) ?_
  have s0 := start S 0 (by omega) J0 _ hS0 (Nat.le_refl _) (Nat.le_refl _) g3
  have e0 : ab_row J0 mx_piece (fun x => if x < 0 then nI x else J0 mx_piece x) = J0 := by
    have : (fun x => if x < 0 then nI x else J0 mx_piece x) = J0 mx_piece := by funext x; rw [if_neg (Nat.not_lt_zero x)]
    rw [this, ab_row_id]
  rw [e0, ← hJ0] at s0
  exact s0
