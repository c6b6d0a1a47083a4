/-! grow: the net that some cables make -/
def gr_pre (I : Nat → Nat → Int32) (c cf cs cp co : Nat) (S N : Nat) (e1 e2 pr : Nat → Nat) (l : List Nat) : Prop :=
  I c 0 = nI S ∧ I c 1 = nI N ∧ S ≤ 10 ∧ N ≤ 24 ∧ l.length = N ∧ (∀ i, i < N → I co i = nI (l.getD i 0)) ∧ (∀ k ∈ l, k < N) ∧ ∀ k, k < N → I cf k = nI (e1 k) ∧ I cs k = nI (e2 k) ∧ I cp k = nI (pr k) ∧ e1 k < S ∧ e2 k < S ∧ pr k ≤ 999
def gr_st (J I : Nat → Nat → Int32) (f fo fp : Nat) (S : Nat) (pr : Nat → Nat) (s : List Nat × (Nat → Nat)) : Prop :=
  (∀ a, a ≠ f → a ≠ fo → a ≠ fp → J a = I a) ∧ J f 1 = nI s.1.length ∧ (∀ k, k < 32 → bt (J f 2) k = decide (k ∈ s.1)) ∧ J f 3 = nI ((s.1.map pr).sum) ∧ J f 4 = nI (S - s.1.length) ∧ (∀ j, j < s.1.length → J fo j = nI (s.1.getD j 0)) ∧ ∀ x, x < 10 → J fp x = nI (s.2 x)
theorem gr_step {J I : Nat → Nat → Int32} {f fo fp S : Nat} {pr : Nat → Nat} {s : List Nat × (Nat → Nat)} {c u v : Nat} (h1 : f ≠ fo) (h2 : f ≠ fp) (h3 : fo ≠ fp) (h : gr_st J I f fo fp S pr s) (hc : c < 32) (hl : s.1.length + 1 ≤ S) (hS : S ≤ 10) {p : Int32} (hp : p = nI (pr c)) {J1 : Nat → Nat → Int32} (hJ1 : J1 = ab_row J fp (un_row (J fp) s.2 u v 10)) :
    gr_st (ab_up (ab_up (ab_up (ab_up (ab_up J1 fo (J1 f 1).toNatClampNeg (nI c)) f 1 (J1 f 1 + 1)) f 2 (J1 f 2 ||| ((1 : Int32) <<< (nI c &&& 31)))) f 3 (J1 f 3 + p)) f 4 (J1 f 4 - 1)) I f fo fp S pr (s.1 ++ [c], mg s.2 u v) := by
  subst hJ1
  obtain ⟨g1, g2, g3, g4, g5, g6, g7⟩ := h
  have r1 : ∀ k, (ab_row J fp (un_row (J fp) s.2 u v 10)) f k = J f k := fun k => by rw [ab_row_ne h2]
  have cl : (nI s.1.length).toNatClampNeg = s.1.length := nI_clamp (by omega)
  refine ⟨fun a b1 b2 b3 => ?_, ?_, fun k hk => ?_, ?_, ?_, fun j hj => ?_, fun x hx => ?_⟩
  · rw [ab_up_o b1, ab_up_o b1, ab_up_o b1, ab_up_o b1, ab_up_o b2, ab_row_ne b3]
    exact g1 a b1 b2 b3
  · rw [ab_up_i, pk_un (by omega), ab_up_i, pk_un (by omega), ab_up_i, pk_un (by omega), ab_up_i, pk_us, r1, g2, List.length_append]
    exact nI_1 _
  · rw [ab_up_i, pk_un (by omega), ab_up_i, pk_un (by omega), ab_up_i, pk_us, r1, b_or, g3 k hk, ab_sh1 hc hk]
    simp only [List.mem_append, List.mem_singleton]
    rw [← Bool.decide_or]
  · rw [ab_up_i, pk_un (by omega), ab_up_i, pk_us, r1, g4, hp, nI_add, List.map_append, List.sum_append]
    simp
  · rw [ab_up_i, pk_us, r1, g5, List.length_append, show (1 : Int32) = nI 1 from rfl, nI_sub (by omega)]
    congr 1
  · rw [ab_up_o h1.symm, ab_up_o h1.symm, ab_up_o h1.symm, ab_up_o h1.symm, ab_up_i, ab_row_ne h3, r1, g2, cl]
    rw [List.length_append] at hj
    simp only [List.length_singleton] at hj
    by_cases e : j = s.1.length
    · subst e
      rw [pk_us, List.getD_eq_getElem?_getD, List.getElem?_append_right (Nat.le_refl _)]
      simp
    · rw [pk_un e, g6 j (by omega), List.getD_eq_getElem?_getD, List.getD_eq_getElem?_getD, List.getElem?_append_left (by omega)]
  · rw [ab_up_o h2.symm, ab_up_o h2.symm, ab_up_o h2.symm, ab_up_o h2.symm, ab_up_o h3.symm, ab_row_eq]
    unfold un_row
    rw [if_pos ⟨hx, hx⟩]
/-- nine cables join ten sites: no further one is taken -/
theorem kr_full {e1 e2 : Nat → Nat} {S : Nat} (hS : S ≤ 10) (A : List Nat) (hA : ew e1 e2 S A) (h9 : 9 ≤ (kr e1 e2 A).1.length) : ∀ B, ew e1 e2 S B → kr e1 e2 (A ++ B) = kr e1 e2 A := by
  intro B
  induction B using sn_ind with
  | nil => intro _; rw [List.append_nil]
  | append_singleton B c ih =>
    intro hB
    have ih := ih (fun k hk => hB k (List.mem_append_left _ hk))
    obtain ⟨h1, h2⟩ := hB c (List.mem_append_right _ List.mem_cons_self)
    rw [← List.append_assoc, kr_snoc, ih]
    unfold kst
    rw [if_pos]
    have hc := kr_cnt A hA
    obtain ⟨p1, p2, p3, p4⟩ := kr_kp A hA
    have hpos : 1 ≤ fa_cnt (fun x => decide ((kr e1 e2 A).2 x = x)) S := by
      have hz : ∀ m, 0 < m → 1 ≤ fa_cnt (fun x => decide ((kr e1 e2 A).2 x = x)) m := by
        intro m
        induction m with
        | zero => intro h; omega
        | succ m ihm =>
          intro _
          by_cases e : m = 0
          · subst e
            rw [fa_cnt_yes (by have := p2 0; simp; omega)]
            omega
          · have := ihm (by omega)
            cases hp : (fun x => decide ((kr e1 e2 A).2 x = x)) m with
            | true => rw [fa_cnt_yes hp]; omega
            | false => rw [fa_cnt_no hp]; exact this
      exact hz S (by omega)
    have h1' := p2 (e1 c)
    have h2' := p2 (e2 c)
    exact cnt_one (p := fun x => decide ((kr e1 e2 A).2 x = x)) (n := S) (by omega) _ _ (by omega) (by omega) (by simp [p3]) (by simp [p3])
theorem g0_ok {w : ab_Wd} {d n nc ns : Nat} {I : Nat → Nat → Int32} {L : Nat → Nat → Int64} (hT : w.1.stackTraces = false) {S N : Nat} {e1 e2 pr : Nat → Nat} {l : List Nat} {am : Nat → Bool} {v : Int32} (hp : gr_pre I kx_now_cables kx_now_cables_first kx_now_cables_second kx_now_cables_price kx_now_cables_order S N e1 e2 pr l) (hv : ∀ k, k < 24 → bt v k = am k) :
    ∃ J, gr_st J I kx_trialNet kx_trialNet_order kx_trialNet_piece S pr (kr e1 e2 (l.filter am)) ∧ ab_U w (d + 2) mt_Forest_grow [.ref kx_trialNet, .ref kx_now_cables, .int v] I L n nc ns J := by
  obtain ⟨p1, p2, p3, p4, p5, p6, p7, p8⟩ := hp
  have hew : ∀ q : List Nat, (∀ k ∈ q, k ∈ l) → ew e1 e2 S (q.filter am) := fun q hq k hk => ⟨(p8 k (p7 k (hq k (List.mem_filter.mp hk).1))).2.2.2.1, (p8 k (p7 k (hq k (List.mem_filter.mp hk).1))).2.2.2.2.1⟩
  have loop : ∀ k i (J : Nat → Nat → Int32), i + k = N → gr_st J I kx_trialNet kx_trialNet_order kx_trialNet_piece S pr (kr e1 e2 ((l.take i).filter am)) →
      ∃ J', gr_st J' I kx_trialNet kx_trialNet_order kx_trialNet_piece S pr (kr e1 e2 (l.filter am)) ∧ ab_E w (d + 2) mt_Forest_grow 46 [.ref kx_trialNet, .ref kx_now_cables, .int v, .int (nI i), .null] [] (J, L, ab_RR, n, nc, ns) (.inl none, (J', L, ab_RR, n, nc, ns)) := by
    intro k
    induction k with
    | zero =>
      intro i J hi hJ
      rw [List.take_of_length_le (by omega)] at hJ
      refine ⟨J, hJ, ?_⟩
      refine q_Forest_grow_0_46 v (nI i) (Nat.le_refl _) (Nat.le_refl _) ⟨fun _ => q_Forest_grow_0_174 v (nI i) (Nat.le_refl _) (Nat.le_refl _) rfl, fun h => absurd ?_ h⟩
      rw [hJ.1 kx_now_cables (by decide) (by decide) (by decide), p2]
      exact nI_le (by omega) (by omega)
    | succ k ih =>
      intro i J hi hJ
      have fC := hJ.1 kx_now_cables (by decide) (by decide) (by decide)
      have fO := hJ.1 kx_now_cables_order (by decide) (by decide) (by decide)
      have f1 := hJ.1 kx_now_cables_first (by decide) (by decide) (by decide)
      have f2 := hJ.1 kx_now_cables_second (by decide) (by decide) (by decide)
      have fP := hJ.1 kx_now_cables_price (by decide) (by decide) (by decide)
      have ci := nI_clamp (n := i) (by omega)
      have hin : vp_in (nI i) 24 := vp_in_nI (by omega) (by omega)
      have hlt : ¬ J kx_now_cables 1 ≤ nI i := by rw [fC, p2]; exact nI_ge (by omega) (by omega)
      have hli : l[i]? = some (l.getD i 0) := by rw [List.getD_eq_getElem?_getD, List.getElem?_eq_getElem (by omega)]; rfl
      have htk : l.take (i + 1) = l.take i ++ [l.getD i 0] := by rw [List.take_succ, hli]; rfl
      have hmem : l.getD i 0 ∈ l := List.mem_of_getElem? hli
      have hc := p7 _ hmem
      obtain ⟨q1, q2, q3, q4, q5, q6⟩ := p8 _ hc
      have hord : J kx_now_cables_order (nI i).toNatClampNeg = nI (l.getD i 0) := by rw [fO, ci]; exact p6 i (by omega)
      generalize hcc : l.getD i 0 = c at *
      have cc := nI_clamp (n := c) (by omega)
      have hcin : vp_in (nI c) 24 := vp_in_nI (by omega) (by omega)
      have hA : ew e1 e2 S ((l.take i).filter am) := hew _ (fun k hk => List.mem_of_mem_take hk)
      have hle9 := kr_cnt _ hA
      have hsz := hJ.2.1
      by_cases h9 : 9 ≤ (kr e1 e2 ((l.take i).filter am)).1.length
      · have hfull : kr e1 e2 (l.filter am) = kr e1 e2 ((l.take i).filter am) := by
          have e9 : l.filter am = (l.take i).filter am ++ (l.drop i).filter am := by rw [← List.filter_append, List.take_append_drop]
          rw [e9]
          exact kr_full p3 _ hA h9 _ (hew _ (fun k hk => List.mem_of_mem_drop hk))
        refine ⟨J, by rw [hfull]; exact hJ, ?_⟩
        refine q_Forest_grow_0_46 v (nI i) (Nat.le_refl _) (Nat.le_refl _) ⟨fun h => absurd h hlt, fun _ => ⟨fun _ => q_Forest_grow_0_174 v (nI i) (Nat.le_refl _) (Nat.le_refl _) rfl, fun h => absurd ?_ h⟩⟩
        rw [hsz]
        exact nI_le (a := 9) h9 (by omega)
      · have hnot9 : ¬ 9 ≤ J kx_trialNet 1 := by rw [hsz]; exact nI_ge (b := 9) (by omega) (by omega)
        by_cases ha : am c = true
        · have hbit : ((v >>> (J kx_now_cables_order (nI i).toNatClampNeg &&& 31)) &&& 1) = 1 := by rw [hord, ab_bit_iff v (by omega), hv c (by omega)]; exact ha
          have hflt : (l.take (i + 1)).filter am = (l.take i).filter am ++ [c] := by rw [htk, List.filter_append]; simp [ha]
          obtain ⟨z1, z2, z3, z4⟩ := kr_kp _ hA
          have a1 : J kx_now_cables_first (J kx_now_cables_order (nI i).toNatClampNeg).toNatClampNeg = nI (e1 c) := by rw [hord, cc, f1]; exact q1
          have a2 : J kx_now_cables_second (J kx_now_cables_order (nI i).toNatClampNeg).toNatClampNeg = nI (e2 c) := by rw [hord, cc, f2]; exact q2
          by_cases he : (kr e1 e2 ((l.take i).filter am)).2 (e1 c) = (kr e1 e2 ((l.take i).filter am)).2 (e2 c)
          · have hks : kr e1 e2 ((l.take (i + 1)).filter am) = kr e1 e2 ((l.take i).filter am) := by rw [hflt, kr_snoc]; unfold kst; rw [if_pos he]
            obtain ⟨J', g1, g2⟩ := ih (i + 1) J (by omega) (by rw [hks]; exact hJ)
            refine ⟨J', g1, ?_⟩
            refine q_Forest_grow_0_46 v (nI i) (Nat.le_refl _) (Nat.le_refl _) ⟨fun h => absurd h hlt, fun _ => ⟨fun h => absurd h hnot9, fun _ => ⟨hin, fun h => absurd hbit h, fun _ => ⟨by rw [hord]; exact hcin, 0, J, ?_, fun _ => ?_, fun h => absurd rfl h⟩⟩⟩⟩
            · rw [a1, a2]
              exact u0_eq hT hJ.2.2.2.2.2.2 z2 (by omega) (by omega) he
            · refine q_Forest_grow_0_168 v (nI i) _ (Nat.le_refl _) (Nat.le_refl _) ?_
              rw [nI_1]
              exact g2
          · have hks : kr e1 e2 ((l.take (i + 1)).filter am) = ((kr e1 e2 ((l.take i).filter am)).1 ++ [c], mg (kr e1 e2 ((l.take i).filter am)).2 ((kr e1 e2 ((l.take i).filter am)).2 (e1 c)) ((kr e1 e2 ((l.take i).filter am)).2 (e2 c))) := by rw [hflt, kr_snoc]; unfold kst; rw [if_neg he]
            have hA1 : ew e1 e2 S ((l.take (i + 1)).filter am) := hew _ (fun k hk => List.mem_of_mem_take hk)
            have hcnt := kr_cnt _ hA1
            rw [hks] at hcnt
            simp only [List.length_append, List.length_singleton] at hcnt
            obtain ⟨J1, hJ1⟩ : ∃ J1, J1 = ab_row J kx_trialNet_piece (un_row (J kx_trialNet_piece) (kr e1 e2 ((l.take i).filter am)).2 ((kr e1 e2 ((l.take i).filter am)).2 (e1 c)) ((kr e1 e2 ((l.take i).filter am)).2 (e2 c)) 10) := ⟨_, rfl⟩
            have hpr : J1 kx_now_cables_price (J kx_now_cables_order (nI i).toNatClampNeg).toNatClampNeg = nI (pr c) := by rw [hJ1, ab_row_ne (by decide), hord, cc, fP]; exact q3
            have stp := gr_step (f := kx_trialNet) (fo := kx_trialNet_order) (fp := kx_trialNet_piece) (u := (kr e1 e2 ((l.take i).filter am)).2 (e1 c)) (v := (kr e1 e2 ((l.take i).filter am)).2 (e2 c)) (by decide) (by decide) (by decide) hJ (c := c) (by omega) (by omega) p3 hpr hJ1
            rw [← hks] at stp
            obtain ⟨J', g1, g2⟩ := ih (i + 1) _ (by omega) stp
            refine ⟨J', g1, ?_⟩
            refine q_Forest_grow_0_46 v (nI i) (Nat.le_refl _) (Nat.le_refl _) ⟨fun h => absurd h hlt, fun _ => ⟨fun h => absurd h hnot9, fun _ => ⟨hin, fun h => absurd hbit h, fun _ => ⟨by rw [hord]; exact hcin, 1, J1, ?_, fun h => absurd h (by decide), fun _ => ⟨?_, ?_⟩⟩⟩⟩⟩
            · rw [a1, a2, hJ1]
              exact u0_ne hT hJ.2.2.2.2.2.2 z2 (by omega) (by omega) he
            · rw [hJ1, ab_row_ne (by decide), hsz]
              exact vp_in_nI (by omega) (by omega)
            · refine q_Forest_grow_0_168 v (nI i) _ (Nat.le_refl _) (Nat.le_refl _) ?_
              rw [nI_1]
              rw [hord] at g2 ⊢
              exact g2
        · have hbit : ¬ ((v >>> (J kx_now_cables_order (nI i).toNatClampNeg &&& 31)) &&& 1) = 1 := by rw [hord, ab_bit_iff v (by omega), hv c (by omega)]; exact ha
          have hflt : (l.take (i + 1)).filter am = (l.take i).filter am := by rw [htk, List.filter_append]; simp [ha]
          obtain ⟨J', g1, g2⟩ := ih (i + 1) J (by omega) (by rw [hflt]; exact hJ)
          refine ⟨J', g1, ?_⟩
          refine q_Forest_grow_0_46 v (nI i) (Nat.le_refl _) (Nat.le_refl _) ⟨fun h => absurd h hlt, fun _ => ⟨fun h => absurd h hnot9, fun _ => ⟨hin, fun _ => ?_, fun h => absurd h hbit⟩⟩⟩
          refine q_Forest_grow_0_168 v (nI i) _ (Nat.le_refl _) (Nat.le_refl _) ?_
          rw [nI_1]
          exact g2
  -- the pieces begin as the sites
  have start : ∀ k i, i + k = 10 → ∀ (J : Nat → Nat → Int32) (res : ab_Re), nc ≤ res.2.2.2.2.2.1 → ns ≤ res.2.2.2.2.2.2 → ab_E w (d + 2) mt_Forest_grow 46 [.ref kx_trialNet, .ref kx_now_cables, .int v, .int 0, .null] [] (ab_row J kx_trialNet_piece (fun x => if x < 10 then nI x else J kx_trialNet_piece x), L, ab_RR, n, nc, ns) res → ab_E w (d + 2) mt_Forest_grow 25 [.ref kx_trialNet, .ref kx_now_cables, .int v, .int (nI i), .null] [] (ab_row J kx_trialNet_piece (fun x => if x < i then nI x else J kx_trialNet_piece x), L, ab_RR, n, nc, ns) res := by
    intro k
    induction k with
    | zero =>
      intro i hi J res hc hs kk
      have e9 : i = 10 := by omega
      subst e9
      exact q_Forest_grow_0_25 v (nI 10) hc hs ⟨fun _ => kk, fun h => absurd (nI_le (a := 10) (b := 10) (by omega) (by omega)) h⟩
    | succ k ih =>
      intro i hi J res hc hs kk
      have ci := nI_clamp (n := i) (by omega)
      have nx := ih (i + 1) (by omega) J res hc hs kk
      refine q_Forest_grow_0_25 v (nI i) hc hs ⟨fun h => absurd h (nI_ge (b := 10) (by omega) (by omega)), fun _ => ⟨vp_in_nI (by omega) (by omega), ?_⟩⟩
      rw [nI_1, ab_up_row, ab_row_row, ab_row_eq, ci]
      have : upd (fun x => if x < i then nI x else J kx_trialNet_piece x) i (nI i) = fun x => if x < i + 1 then nI x else J kx_trialNet_piece x := by
        funext x
        by_cases e : x = i
        · subst e; rw [pk_us, if_pos (by omega)]
        · rw [pk_un e]
          by_cases g : x < i
          · rw [if_pos g, if_pos (by omega)]
          · rw [if_neg g, if_neg (by omega)]
      rw [this]
      exact nx
  generalize hJ0 : ab_up (ab_up (ab_up (ab_up I kx_trialNet 1 0) kx_trialNet 2 0) kx_trialNet 3 0) kx_trialNet 4 (I kx_now_cables 0) = J0
  have hst : gr_st (ab_row J0 kx_trialNet_piece (fun x => if x < 10 then nI x else J0 kx_trialNet_piece x)) I kx_trialNet kx_trialNet_order kx_trialNet_piece S pr (kr e1 e2 ((l.take 0).filter am)) := by
    rw [List.take_zero, List.filter_nil, kr_nil, ← hJ0]
    refine ⟨fun a b1 b2 b3 => ?_, ?_, fun k hk => ?_, ?_, ?_, fun j hj => ?_, fun x hx => ?_⟩
    · rw [ab_row_ne b3, ab_up_o b1, ab_up_o b1, ab_up_o b1, ab_up_o b1]
    · rw [ab_row_ne (by decide), ab_up_i, pk_un (by omega), ab_up_i, pk_un (by omega), ab_up_i, pk_un (by omega), ab_up_i, pk_us]; rfl
    · rw [ab_row_ne (by decide), ab_up_i, pk_un (by omega), ab_up_i, pk_un (by omega), ab_up_i, pk_us, b_0]; rfl
    · rw [ab_row_ne (by decide), ab_up_i, pk_un (by omega), ab_up_i, pk_us]; rfl
    · rw [ab_row_ne (by decide), ab_up_i, pk_us, p1]; rfl
    · exact absurd hj (Nat.not_lt_zero j)
    · rw [ab_row_eq, if_pos hx]; rfl
  obtain ⟨J', g1, g2⟩ := loop N 0 _ (by omega) hst
  refine ⟨J', g1, ab_C_of (by decide) rfl (Nat.le_of_ble_eq_true rfl) hT ?_⟩
  refine q_Forest_grow_0_0 v (Nat.le_refl _) (Nat.le_refl _) ?_
  have s0 := start 10 0 (by omega) J0 _ (Nat.le_refl _) (Nat.le_refl _) g2
  have e0 : ab_row J0 kx_trialNet_piece (fun x => if x < 0 then nI x else J0 kx_trialNet_piece x) = J0 := by
    have : (fun x => if x < 0 then nI x else J0 kx_trialNet_piece x) = J0 kx_trialNet_piece := by funext x; rw [if_neg (Nat.not_lt_zero x)]
    rw [this, ab_row_id]
  rw [e0, ← hJ0] at s0
  exact s0
theorem g1_ok {w : ab_Wd} {d n nc ns : Nat} {I : Nat → Nat → Int32} {L : Nat → Nat → Int64} (hT : w.1.stackTraces = false) {S N : Nat} {e1 e2 pr : Nat → Nat} {l : List Nat} {am : Nat → Bool} {v : Int32} (hp : gr_pre I kx_trial kx_trial_first kx_trial_second kx_trial_price kx_trial_order S N e1 e2 pr l) (hv : ∀ k, k < 24 → bt v k = am k) :
    ∃ J, gr_st J I kx_trialNet kx_trialNet_order kx_trialNet_piece S pr (kr e1 e2 (l.filter am)) ∧ ab_U w (d + 2) mt_Forest_grow [.ref kx_trialNet, .ref kx_trial, .int v] I L n nc ns J := by
  obtain ⟨p1, p2, p3, p4, p5, p6, p7, p8⟩ := hp
  have hew : ∀ q : List Nat, (∀ k ∈ q, k ∈ l) → ew e1 e2 S (q.filter am) := fun q hq k hk => ⟨(p8 k (p7 k (hq k (List.mem_filter.mp hk).1))).2.2.2.1, (p8 k (p7 k (hq k (List.mem_filter.mp hk).1))).2.2.2.2.1⟩
  have loop : ∀ k i (J : Nat → Nat → Int32), i + k = N → gr_st J I kx_trialNet kx_trialNet_order kx_trialNet_piece S pr (kr e1 e2 ((l.take i).filter am)) →
      ∃ J', gr_st J' I kx_trialNet kx_trialNet_order kx_trialNet_piece S pr (kr e1 e2 (l.filter am)) ∧ ab_E w (d + 2) mt_Forest_grow 46 [.ref kx_trialNet, .ref kx_trial, .int v, .int (nI i), .null] [] (J, L, ab_RR, n, nc, ns) (.inl none, (J', L, ab_RR, n, nc, ns)) := by
    intro k
    induction k with
    | zero =>
      intro i J hi hJ
      rw [List.take_of_length_le (by omega)] at hJ
      refine ⟨J, hJ, ?_⟩
      refine q_Forest_grow_1_46 v (nI i) (Nat.le_refl _) (Nat.le_refl _) ⟨fun _ => q_Forest_grow_1_174 v (nI i) (Nat.le_refl _) (Nat.le_refl _) rfl, fun h => absurd ?_ h⟩
      rw [hJ.1 kx_trial (by decide) (by decide) (by decide), p2]
      exact nI_le (by omega) (by omega)
    | succ k ih =>
      intro i J hi hJ
      have fC := hJ.1 kx_trial (by decide) (by decide) (by decide)
      have fO := hJ.1 kx_trial_order (by decide) (by decide) (by decide)
      have f1 := hJ.1 kx_trial_first (by decide) (by decide) (by decide)
      have f2 := hJ.1 kx_trial_second (by decide) (by decide) (by decide)
      have fP := hJ.1 kx_trial_price (by decide) (by decide) (by decide)
      have ci := nI_clamp (n := i) (by omega)
      have hin : vp_in (nI i) 24 := vp_in_nI (by omega) (by omega)
      have hlt : ¬ J kx_trial 1 ≤ nI i := by rw [fC, p2]; exact nI_ge (by omega) (by omega)
      have hli : l[i]? = some (l.getD i 0) := by rw [List.getD_eq_getElem?_getD, List.getElem?_eq_getElem (by omega)]; rfl
      have htk : l.take (i + 1) = l.take i ++ [l.getD i 0] := by rw [List.take_succ, hli]; rfl
      have hmem : l.getD i 0 ∈ l := List.mem_of_getElem? hli
      have hc := p7 _ hmem
      obtain ⟨q1, q2, q3, q4, q5, q6⟩ := p8 _ hc
      have hord : J kx_trial_order (nI i).toNatClampNeg = nI (l.getD i 0) := by rw [fO, ci]; exact p6 i (by omega)
      generalize hcc : l.getD i 0 = c at *
      have cc := nI_clamp (n := c) (by omega)
      have hcin : vp_in (nI c) 24 := vp_in_nI (by omega) (by omega)
      have hA : ew e1 e2 S ((l.take i).filter am) := hew _ (fun k hk => List.mem_of_mem_take hk)
      have hle9 := kr_cnt _ hA
      have hsz := hJ.2.1
      by_cases h9 : 9 ≤ (kr e1 e2 ((l.take i).filter am)).1.length
      · have hfull : kr e1 e2 (l.filter am) = kr e1 e2 ((l.take i).filter am) := by
          have e9 : l.filter am = (l.take i).filter am ++ (l.drop i).filter am := by rw [← List.filter_append, List.take_append_drop]
          rw [e9]
          exact kr_full p3 _ hA h9 _ (hew _ (fun k hk => List.mem_of_mem_drop hk))
        refine ⟨J, by rw [hfull]; exact hJ, ?_⟩
        refine q_Forest_grow_1_46 v (nI i) (Nat.le_refl _) (Nat.le_refl _) ⟨fun h => absurd h hlt, fun _ => ⟨fun _ => q_Forest_grow_1_174 v (nI i) (Nat.le_refl _) (Nat.le_refl _) rfl, fun h => absurd ?_ h⟩⟩
        rw [hsz]
        exact nI_le (a := 9) h9 (by omega)
      · have hnot9 : ¬ 9 ≤ J kx_trialNet 1 := by rw [hsz]; exact nI_ge (b := 9) (by omega) (by omega)
        by_cases ha : am c = true
        · have hbit : ((v >>> (J kx_trial_order (nI i).toNatClampNeg &&& 31)) &&& 1) = 1 := by rw [hord, ab_bit_iff v (by omega), hv c (by omega)]; exact ha
          have hflt : (l.take (i + 1)).filter am = (l.take i).filter am ++ [c] := by rw [htk, List.filter_append]; simp [ha]
          obtain ⟨z1, z2, z3, z4⟩ := kr_kp _ hA
          have a1 : J kx_trial_first (J kx_trial_order (nI i).toNatClampNeg).toNatClampNeg = nI (e1 c) := by rw [hord, cc, f1]; exact q1
          have a2 : J kx_trial_second (J kx_trial_order (nI i).toNatClampNeg).toNatClampNeg = nI (e2 c) := by rw [hord, cc, f2]; exact q2
          by_cases he : (kr e1 e2 ((l.take i).filter am)).2 (e1 c) = (kr e1 e2 ((l.take i).filter am)).2 (e2 c)
          · have hks : kr e1 e2 ((l.take (i + 1)).filter am) = kr e1 e2 ((l.take i).filter am) := by rw [hflt, kr_snoc]; unfold kst; rw [if_pos he]
            obtain ⟨J', g1, g2⟩ := ih (i + 1) J (by omega) (by rw [hks]; exact hJ)
            refine ⟨J', g1, ?_⟩
            refine q_Forest_grow_1_46 v (nI i) (Nat.le_refl _) (Nat.le_refl _) ⟨fun h => absurd h hlt, fun _ => ⟨fun h => absurd h hnot9, fun _ => ⟨hin, fun h => absurd hbit h, fun _ => ⟨by rw [hord]; exact hcin, 0, J, ?_, fun _ => ?_, fun h => absurd rfl h⟩⟩⟩⟩
            · rw [a1, a2]
              exact u0_eq hT hJ.2.2.2.2.2.2 z2 (by omega) (by omega) he
            · refine q_Forest_grow_1_168 v (nI i) _ (Nat.le_refl _) (Nat.le_refl _) ?_
              rw [nI_1]
              exact g2
          · have hks : kr e1 e2 ((l.take (i + 1)).filter am) = ((kr e1 e2 ((l.take i).filter am)).1 ++ [c], mg (kr e1 e2 ((l.take i).filter am)).2 ((kr e1 e2 ((l.take i).filter am)).2 (e1 c)) ((kr e1 e2 ((l.take i).filter am)).2 (e2 c))) := by rw [hflt, kr_snoc]; unfold kst; rw [if_neg he]
            have hA1 : ew e1 e2 S ((l.take (i + 1)).filter am) := hew _ (fun k hk => List.mem_of_mem_take hk)
            have hcnt := kr_cnt _ hA1
            rw [hks] at hcnt
            simp only [List.length_append, List.length_singleton] at hcnt
            obtain ⟨J1, hJ1⟩ : ∃ J1, J1 = ab_row J kx_trialNet_piece (un_row (J kx_trialNet_piece) (kr e1 e2 ((l.take i).filter am)).2 ((kr e1 e2 ((l.take i).filter am)).2 (e1 c)) ((kr e1 e2 ((l.take i).filter am)).2 (e2 c)) 10) := ⟨_, rfl⟩
            have hpr : J1 kx_trial_price (J kx_trial_order (nI i).toNatClampNeg).toNatClampNeg = nI (pr c) := by rw [hJ1, ab_row_ne (by decide), hord, cc, fP]; exact q3
            have stp := gr_step (f := kx_trialNet) (fo := kx_trialNet_order) (fp := kx_trialNet_piece) (u := (kr e1 e2 ((l.take i).filter am)).2 (e1 c)) (v := (kr e1 e2 ((l.take i).filter am)).2 (e2 c)) (by decide) (by decide) (by decide) hJ (c := c) (by omega) (by omega) p3 hpr hJ1
            rw [← hks] at stp
            obtain ⟨J', g1, g2⟩ := ih (i + 1) _ (by omega) stp
            refine ⟨J', g1, ?_⟩
            refine q_Forest_grow_1_46 v (nI i) (Nat.le_refl _) (Nat.le_refl _) ⟨fun h => absurd h hlt, fun _ => ⟨fun h => absurd h hnot9, fun _ => ⟨hin, fun h => absurd hbit h, fun _ => ⟨by rw [hord]; exact hcin, 1, J1, ?_, fun h => absurd h (by decide), fun _ => ⟨?_, ?_⟩⟩⟩⟩⟩
            · rw [a1, a2, hJ1]
              exact u0_ne hT hJ.2.2.2.2.2.2 z2 (by omega) (by omega) he
            · rw [hJ1, ab_row_ne (by decide), hsz]
              exact vp_in_nI (by omega) (by omega)
            · refine q_Forest_grow_1_168 v (nI i) _ (Nat.le_refl _) (Nat.le_refl _) ?_
              rw [nI_1]
              rw [hord] at g2 ⊢
              exact g2
        · have hbit : ¬ ((v >>> (J kx_trial_order (nI i).toNatClampNeg &&& 31)) &&& 1) = 1 := by rw [hord, ab_bit_iff v (by omega), hv c (by omega)]; exact ha
          have hflt : (l.take (i + 1)).filter am = (l.take i).filter am := by rw [htk, List.filter_append]; simp [ha]
          obtain ⟨J', g1, g2⟩ := ih (i + 1) J (by omega) (by rw [hflt]; exact hJ)
          refine ⟨J', g1, ?_⟩
          refine q_Forest_grow_1_46 v (nI i) (Nat.le_refl _) (Nat.le_refl _) ⟨fun h => absurd h hlt, fun _ => ⟨fun h => absurd h hnot9, fun _ => ⟨hin, fun _ => ?_, fun h => absurd h hbit⟩⟩⟩
          refine q_Forest_grow_1_168 v (nI i) _ (Nat.le_refl _) (Nat.le_refl _) ?_
          rw [nI_1]
          exact g2
  -- the pieces begin as the sites
  have start : ∀ k i, i + k = 10 → ∀ (J : Nat → Nat → Int32) (res : ab_Re), nc ≤ res.2.2.2.2.2.1 → ns ≤ res.2.2.2.2.2.2 → ab_E w (d + 2) mt_Forest_grow 46 [.ref kx_trialNet, .ref kx_trial, .int v, .int 0, .null] [] (ab_row J kx_trialNet_piece (fun x => if x < 10 then nI x else J kx_trialNet_piece x), L, ab_RR, n, nc, ns) res → ab_E w (d + 2) mt_Forest_grow 25 [.ref kx_trialNet, .ref kx_trial, .int v, .int (nI i), .null] [] (ab_row J kx_trialNet_piece (fun x => if x < i then nI x else J kx_trialNet_piece x), L, ab_RR, n, nc, ns) res := by
    intro k
    induction k with
    | zero =>
      intro i hi J res hc hs kk
      have e9 : i = 10 := by omega
      subst e9
      exact q_Forest_grow_1_25 v (nI 10) hc hs ⟨fun _ => kk, fun h => absurd (nI_le (a := 10) (b := 10) (by omega) (by omega)) h⟩
    | succ k ih =>
      intro i hi J res hc hs kk
      have ci := nI_clamp (n := i) (by omega)
      have nx := ih (i + 1) (by omega) J res hc hs kk
      refine q_Forest_grow_1_25 v (nI i) hc hs ⟨fun h => absurd h (nI_ge (b := 10) (by omega) (by omega)), fun _ => ⟨vp_in_nI (by omega) (by omega), ?_⟩⟩
      rw [nI_1, ab_up_row, ab_row_row, ab_row_eq, ci]
      have : upd (fun x => if x < i then nI x else J kx_trialNet_piece x) i (nI i) = fun x => if x < i + 1 then nI x else J kx_trialNet_piece x := by
        funext x
        by_cases e : x = i
        · subst e; rw [pk_us, if_pos (by omega)]
        · rw [pk_un e]
          by_cases g : x < i
          · rw [if_pos g, if_pos (by omega)]
          · rw [if_neg g, if_neg (by omega)]
      rw [this]
      exact nx
  generalize hJ0 : ab_up (ab_up (ab_up (ab_up I kx_trialNet 1 0) kx_trialNet 2 0) kx_trialNet 3 0) kx_trialNet 4 (I kx_trial 0) = J0
  have hst : gr_st (ab_row J0 kx_trialNet_piece (fun x => if x < 10 then nI x else J0 kx_trialNet_piece x)) I kx_trialNet kx_trialNet_order kx_trialNet_piece S pr (kr e1 e2 ((l.take 0).filter am)) := by
    rw [List.take_zero, List.filter_nil, kr_nil, ← hJ0]
    refine ⟨fun a b1 b2 b3 => ?_, ?_, fun k hk => ?_, ?_, ?_, fun j hj => ?_, fun x hx => ?_⟩
    · rw [ab_row_ne b3, ab_up_o b1, ab_up_o b1, ab_up_o b1, ab_up_o b1]
    · rw [ab_row_ne (by decide), ab_up_i, pk_un (by omega), ab_up_i, pk_un (by omega), ab_up_i, pk_un (by omega), ab_up_i, pk_us]; rfl
    · rw [ab_row_ne (by decide), ab_up_i, pk_un (by omega), ab_up_i, pk_un (by omega), ab_up_i, pk_us, b_0]; rfl
    · rw [ab_row_ne (by decide), ab_up_i, pk_un (by omega), ab_up_i, pk_us]; rfl
    · rw [ab_row_ne (by decide), ab_up_i, pk_us, p1]; rfl
    · exact absurd hj (Nat.not_lt_zero j)
    · rw [ab_row_eq, if_pos hx]; rfl
  obtain ⟨J', g1, g2⟩ := loop N 0 _ (by omega) hst
  refine ⟨J', g1, ab_C_of (by decide) rfl (Nat.le_of_ble_eq_true rfl) hT ?_⟩
  refine q_Forest_grow_1_0 v (Nat.le_refl _) (Nat.le_refl _) ?_
  have s0 := start 10 0 (by omega) J0 _ (Nat.le_refl _) (Nat.le_refl _) g2
  have e0 : ab_row J0 kx_trialNet_piece (fun x => if x < 0 then nI x else J0 kx_trialNet_piece x) = J0 := by
    have : (fun x => if x < 0 then nI x else J0 kx_trialNet_piece x) = J0 kx_trialNet_piece := by funext x; rw [if_neg (Nat.not_lt_zero x)]
    rw [this, ab_row_id]
  rw [e0, ← hJ0] at s0
  exact s0
theorem g2_ok {w : ab_Wd} {d n nc ns : Nat} {I : Nat → Nat → Int32} {L : Nat → Nat → Int64} (hT : w.1.stackTraces = false) {S N : Nat} {e1 e2 pr : Nat → Nat} {l : List Nat} {am : Nat → Bool} {v : Int32} (hp : gr_pre I kx_now_cables kx_now_cables_first kx_now_cables_second kx_now_cables_price kx_now_cables_order S N e1 e2 pr l) (hv : ∀ k, k < 24 → bt v k = am k) :
    ∃ J, gr_st J I kx_forest kx_forest_order kx_forest_piece S pr (kr e1 e2 (l.filter am)) ∧ ab_U w (d + 2) mt_Forest_grow [.ref kx_forest, .ref kx_now_cables, .int v] I L n nc ns J := by
  obtain ⟨p1, p2, p3, p4, p5, p6, p7, p8⟩ := hp
  have hew : ∀ q : List Nat, (∀ k ∈ q, k ∈ l) → ew e1 e2 S (q.filter am) := fun q hq k hk => ⟨(p8 k (p7 k (hq k (List.mem_filter.mp hk).1))).2.2.2.1, (p8 k (p7 k (hq k (List.mem_filter.mp hk).1))).2.2.2.2.1⟩
  have loop : ∀ k i (J : Nat → Nat → Int32), i + k = N → gr_st J I kx_forest kx_forest_order kx_forest_piece S pr (kr e1 e2 ((l.take i).filter am)) →
      ∃ J', gr_st J' I kx_forest kx_forest_order kx_forest_piece S pr (kr e1 e2 (l.filter am)) ∧ ab_E w (d + 2) mt_Forest_grow 46 [.ref kx_forest, .ref kx_now_cables, .int v, .int (nI i), .null] [] (J, L, ab_RR, n, nc, ns) (.inl none, (J', L, ab_RR, n, nc, ns)) := by
    intro k
    induction k with
    | zero =>
      intro i J hi hJ
      rw [List.take_of_length_le (by omega)] at hJ
      refine ⟨J, hJ, ?_⟩
      refine q_Forest_grow_2_46 v (nI i) (Nat.le_refl _) (Nat.le_refl _) ⟨fun _ => q_Forest_grow_2_174 v (nI i) (Nat.le_refl _) (Nat.le_refl _) rfl, fun h => absurd ?_ h⟩
      rw [hJ.1 kx_now_cables (by decide) (by decide) (by decide), p2]
      exact nI_le (by omega) (by omega)
    | succ k ih =>
      intro i J hi hJ
      have fC := hJ.1 kx_now_cables (by decide) (by decide) (by decide)
      have fO := hJ.1 kx_now_cables_order (by decide) (by decide) (by decide)
      have f1 := hJ.1 kx_now_cables_first (by decide) (by decide) (by decide)
      have f2 := hJ.1 kx_now_cables_second (by decide) (by decide) (by decide)
      have fP := hJ.1 kx_now_cables_price (by decide) (by decide) (by decide)
      have ci := nI_clamp (n := i) (by omega)
      have hin : vp_in (nI i) 24 := vp_in_nI (by omega) (by omega)
      have hlt : ¬ J kx_now_cables 1 ≤ nI i := by rw [fC, p2]; exact nI_ge (by omega) (by omega)
      have hli : l[i]? = some (l.getD i 0) := by rw [List.getD_eq_getElem?_getD, List.getElem?_eq_getElem (by omega)]; rfl
      have htk : l.take (i + 1) = l.take i ++ [l.getD i 0] := by rw [List.take_succ, hli]; rfl
      have hmem : l.getD i 0 ∈ l := List.mem_of_getElem? hli
      have hc := p7 _ hmem
      obtain ⟨q1, q2, q3, q4, q5, q6⟩ := p8 _ hc
      have hord : J kx_now_cables_order (nI i).toNatClampNeg = nI (l.getD i 0) := by rw [fO, ci]; exact p6 i (by omega)
      generalize hcc : l.getD i 0 = c at *
      have cc := nI_clamp (n := c) (by omega)
      have hcin : vp_in (nI c) 24 := vp_in_nI (by omega) (by omega)
      have hA : ew e1 e2 S ((l.take i).filter am) := hew _ (fun k hk => List.mem_of_mem_take hk)
      have hle9 := kr_cnt _ hA
      have hsz := hJ.2.1
      by_cases h9 : 9 ≤ (kr e1 e2 ((l.take i).filter am)).1.length
      · have hfull : kr e1 e2 (l.filter am) = kr e1 e2 ((l.take i).filter am) := by
          have e9 : l.filter am = (l.take i).filter am ++ (l.drop i).filter am := by rw [← List.filter_append, List.take_append_drop]
          rw [e9]
          exact kr_full p3 _ hA h9 _ (hew _ (fun k hk => List.mem_of_mem_drop hk))
        refine ⟨J, by rw [hfull]; exact hJ, ?_⟩
        refine q_Forest_grow_2_46 v (nI i) (Nat.le_refl _) (Nat.le_refl _) ⟨fun h => absurd h hlt, fun _ => ⟨fun _ => q_Forest_grow_2_174 v (nI i) (Nat.le_refl _) (Nat.le_refl _) rfl, fun h => absurd ?_ h⟩⟩
        rw [hsz]
        exact nI_le (a := 9) h9 (by omega)
      · have hnot9 : ¬ 9 ≤ J kx_forest 1 := by rw [hsz]; exact nI_ge (b := 9) (by omega) (by omega)
        by_cases ha : am c = true
        · have hbit : ((v >>> (J kx_now_cables_order (nI i).toNatClampNeg &&& 31)) &&& 1) = 1 := by rw [hord, ab_bit_iff v (by omega), hv c (by omega)]; exact ha
          have hflt : (l.take (i + 1)).filter am = (l.take i).filter am ++ [c] := by rw [htk, List.filter_append]; simp [ha]
          obtain ⟨z1, z2, z3, z4⟩ := kr_kp _ hA
          have a1 : J kx_now_cables_first (J kx_now_cables_order (nI i).toNatClampNeg).toNatClampNeg = nI (e1 c) := by rw [hord, cc, f1]; exact q1
          have a2 : J kx_now_cables_second (J kx_now_cables_order (nI i).toNatClampNeg).toNatClampNeg = nI (e2 c) := by rw [hord, cc, f2]; exact q2
          by_cases he : (kr e1 e2 ((l.take i).filter am)).2 (e1 c) = (kr e1 e2 ((l.take i).filter am)).2 (e2 c)
          · have hks : kr e1 e2 ((l.take (i + 1)).filter am) = kr e1 e2 ((l.take i).filter am) := by rw [hflt, kr_snoc]; unfold kst; rw [if_pos he]
            obtain ⟨J', g1, g2⟩ := ih (i + 1) J (by omega) (by rw [hks]; exact hJ)
            refine ⟨J', g1, ?_⟩
            refine q_Forest_grow_2_46 v (nI i) (Nat.le_refl _) (Nat.le_refl _) ⟨fun h => absurd h hlt, fun _ => ⟨fun h => absurd h hnot9, fun _ => ⟨hin, fun h => absurd hbit h, fun _ => ⟨by rw [hord]; exact hcin, 0, J, ?_, fun _ => ?_, fun h => absurd rfl h⟩⟩⟩⟩
            · rw [a1, a2]
              exact u1_eq hT hJ.2.2.2.2.2.2 z2 (by omega) (by omega) he
            · refine q_Forest_grow_2_168 v (nI i) _ (Nat.le_refl _) (Nat.le_refl _) ?_
              rw [nI_1]
              exact g2
          · have hks : kr e1 e2 ((l.take (i + 1)).filter am) = ((kr e1 e2 ((l.take i).filter am)).1 ++ [c], mg (kr e1 e2 ((l.take i).filter am)).2 ((kr e1 e2 ((l.take i).filter am)).2 (e1 c)) ((kr e1 e2 ((l.take i).filter am)).2 (e2 c))) := by rw [hflt, kr_snoc]; unfold kst; rw [if_neg he]
            have hA1 : ew e1 e2 S ((l.take (i + 1)).filter am) := hew _ (fun k hk => List.mem_of_mem_take hk)
            have hcnt := kr_cnt _ hA1
            rw [hks] at hcnt
            simp only [List.length_append, List.length_singleton] at hcnt
            obtain ⟨J1, hJ1⟩ : ∃ J1, J1 = ab_row J kx_forest_piece (un_row (J kx_forest_piece) (kr e1 e2 ((l.take i).filter am)).2 ((kr e1 e2 ((l.take i).filter am)).2 (e1 c)) ((kr e1 e2 ((l.take i).filter am)).2 (e2 c)) 10) := ⟨_, rfl⟩
            have hpr : J1 kx_now_cables_price (J kx_now_cables_order (nI i).toNatClampNeg).toNatClampNeg = nI (pr c) := by rw [hJ1, ab_row_ne (by decide), hord, cc, fP]; exact q3
            have stp := gr_step (f := kx_forest) (fo := kx_forest_order) (fp := kx_forest_piece) (u := (kr e1 e2 ((l.take i).filter am)).2 (e1 c)) (v := (kr e1 e2 ((l.take i).filter am)).2 (e2 c)) (by decide) (by decide) (by decide) hJ (c := c) (by omega) (by omega) p3 hpr hJ1
            rw [← hks] at stp
            obtain ⟨J', g1, g2⟩ := ih (i + 1) _ (by omega) stp
            refine ⟨J', g1, ?_⟩
            refine q_Forest_grow_2_46 v (nI i) (Nat.le_refl _) (Nat.le_refl _) ⟨fun h => absurd h hlt, fun _ => ⟨fun h => absurd h hnot9, fun _ => ⟨hin, fun h => absurd hbit h, fun _ => ⟨by rw [hord]; exact hcin, 1, J1, ?_, fun h => absurd h (by decide), fun _ => ⟨?_, ?_⟩⟩⟩⟩⟩
            · rw [a1, a2, hJ1]
              exact u1_ne hT hJ.2.2.2.2.2.2 z2 (by omega) (by omega) he
            · rw [hJ1, ab_row_ne (by decide), hsz]
              exact vp_in_nI (by omega) (by omega)
            · refine q_Forest_grow_2_168 v (nI i) _ (Nat.le_refl _) (Nat.le_refl _) ?_
              rw [nI_1]
              rw [hord] at g2 ⊢
              exact g2
        · have hbit : ¬ ((v >>> (J kx_now_cables_order (nI i).toNatClampNeg &&& 31)) &&& 1) = 1 := by rw [hord, ab_bit_iff v (by omega), hv c (by omega)]; exact ha
          have hflt : (l.take (i + 1)).filter am = (l.take i).filter am := by rw [htk, List.filter_append]; simp [ha]
          obtain ⟨J', g1, g2⟩ := ih (i + 1) J (by omega) (by rw [hflt]; exact hJ)
          refine ⟨J', g1, ?_⟩
          refine q_Forest_grow_2_46 v (nI i) (Nat.le_refl _) (Nat.le_refl _) ⟨fun h => absurd h hlt, fun _ => ⟨fun h => absurd h hnot9, fun _ => ⟨hin, fun _ => ?_, fun h => absurd h hbit⟩⟩⟩
          refine q_Forest_grow_2_168 v (nI i) _ (Nat.le_refl _) (Nat.le_refl _) ?_
          rw [nI_1]
          exact g2
  -- the pieces begin as the sites
  have start : ∀ k i, i + k = 10 → ∀ (J : Nat → Nat → Int32) (res : ab_Re), nc ≤ res.2.2.2.2.2.1 → ns ≤ res.2.2.2.2.2.2 → ab_E w (d + 2) mt_Forest_grow 46 [.ref kx_forest, .ref kx_now_cables, .int v, .int 0, .null] [] (ab_row J kx_forest_piece (fun x => if x < 10 then nI x else J kx_forest_piece x), L, ab_RR, n, nc, ns) res → ab_E w (d + 2) mt_Forest_grow 25 [.ref kx_forest, .ref kx_now_cables, .int v, .int (nI i), .null] [] (ab_row J kx_forest_piece (fun x => if x < i then nI x else J kx_forest_piece x), L, ab_RR, n, nc, ns) res := by
    intro k
    induction k with
    | zero =>
      intro i hi J res hc hs kk
      have e9 : i = 10 := by omega
      subst e9
      exact q_Forest_grow_2_25 v (nI 10) hc hs ⟨fun _ => kk, fun h => absurd (nI_le (a := 10) (b := 10) (by omega) (by omega)) h⟩
    | succ k ih =>
      intro i hi J res hc hs kk
      have ci := nI_clamp (n := i) (by omega)
      have nx := ih (i + 1) (by omega) J res hc hs kk
      refine q_Forest_grow_2_25 v (nI i) hc hs ⟨fun h => absurd h (nI_ge (b := 10) (by omega) (by omega)), fun _ => ⟨vp_in_nI (by omega) (by omega), ?_⟩⟩
      rw [nI_1, ab_up_row, ab_row_row, ab_row_eq, ci]
      have : upd (fun x => if x < i then nI x else J kx_forest_piece x) i (nI i) = fun x => if x < i + 1 then nI x else J kx_forest_piece x := by
        funext x
        by_cases e : x = i
        · subst e; rw [pk_us, if_pos (by omega)]
        · rw [pk_un e]
          by_cases g : x < i
          · rw [if_pos g, if_pos (by omega)]
          · rw [if_neg g, if_neg (by omega)]
      rw [this]
      exact nx
  generalize hJ0 : ab_up (ab_up (ab_up (ab_up I kx_forest 1 0) kx_forest 2 0) kx_forest 3 0) kx_forest 4 (I kx_now_cables 0) = J0
  have hst : gr_st (ab_row J0 kx_forest_piece (fun x => if x < 10 then nI x else J0 kx_forest_piece x)) I kx_forest kx_forest_order kx_forest_piece S pr (kr e1 e2 ((l.take 0).filter am)) := by
    rw [List.take_zero, List.filter_nil, kr_nil, ← hJ0]
    refine ⟨fun a b1 b2 b3 => ?_, ?_, fun k hk => ?_, ?_, ?_, fun j hj => ?_, fun x hx => ?_⟩
    · rw [ab_row_ne b3, ab_up_o b1, ab_up_o b1, ab_up_o b1, ab_up_o b1]
    · rw [ab_row_ne (by decide), ab_up_i, pk_un (by omega), ab_up_i, pk_un (by omega), ab_up_i, pk_un (by omega), ab_up_i, pk_us]; rfl
    · rw [ab_row_ne (by decide), ab_up_i, pk_un (by omega), ab_up_i, pk_un (by omega), ab_up_i, pk_us, b_0]; rfl
    · rw [ab_row_ne (by decide), ab_up_i, pk_un (by omega), ab_up_i, pk_us]; rfl
    · rw [ab_row_ne (by decide), ab_up_i, pk_us, p1]; rfl
    · exact absurd hj (Nat.not_lt_zero j)
    · rw [ab_row_eq, if_pos hx]; rfl
  obtain ⟨J', g1, g2⟩ := loop N 0 _ (by omega) hst
  refine ⟨J', g1, ab_C_of (by decide) rfl (Nat.le_of_ble_eq_true rfl) hT ?_⟩
  refine q_Forest_grow_2_0 v (Nat.le_refl _) (Nat.le_refl _) ?_
  have s0 := start 10 0 (by omega) J0 _ (Nat.le_refl _) (Nat.le_refl _) g2
  have e0 : ab_row J0 kx_forest_piece (fun x => if x < 0 then nI x else J0 kx_forest_piece x) = J0 := by
    have : (fun x => if x < 0 then nI x else J0 kx_forest_piece x) = J0 kx_forest_piece := by funext x; rw [if_neg (Nat.not_lt_zero x)]
    rw [this, ab_row_id]
  rw [e0, ← hJ0] at s0
  exact s0
