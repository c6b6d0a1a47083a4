/-! THE STATE on both sides -/
theorem od_uq {pr : Nat → Nat} : ∀ {l l' : List Nat}, l.Pairwise (ch pr) → l'.Pairwise (ch pr) → (∀ k, k ∈ l ↔ k ∈ l') → l = l' := by
  have asym : ∀ a b, ch pr a b → ch pr b a → False := fun a b h g => by
    unfold ch at h g; omega
  intro l
  induction l with
  | nil =>
    intro l' _ _ h
    cases l' with
    | nil => rfl
    | cons b l' => exact absurd ((h b).mpr List.mem_cons_self) (by simp)
  | cons a l ih =>
    intro l' hp hp' h
    cases l' with
    | nil => exact absurd ((h a).mp List.mem_cons_self) (by simp)
    | cons b l' =>
      have h1 := List.pairwise_cons.mp hp
      have h2 := List.pairwise_cons.mp hp'
      have e : a = b := by
        rcases List.mem_cons.mp ((h a).mp List.mem_cons_self) with e | e
        · exact e
        · rcases List.mem_cons.mp ((h b).mpr List.mem_cons_self) with e' | e'
          · exact e'.symm
          · exact (asym _ _ (h1.1 b e') (h2.1 a e)).elim
      subst e
      have irr : ∀ x, ¬ ch pr x x := fun x g => asym x x g g
      rw [ih h1.2 h2.2 (fun k => ?_)]
      have := h k
      rw [List.mem_cons, List.mem_cons] at this
      constructor
      · intro hk
        rcases this.mp (Or.inr hk) with e | e
        · subst e; exact absurd (h1.1 k hk) (irr k)
        · exact e
      · intro hk
        rcases this.mpr (Or.inr hk) with e | e
        · subst e; exact absurd (h2.1 k hk) (irr k)
        · exact e
theorem od_u {pr : Nat → Nat} {N : Nat} {l l' : List Nat} (h : od pr N l) (g : od pr N l') : l = l' := od_uq h.1 g.1 (fun k => by rw [h.2 k, g.2 k])
/-- THE ordered row -/
noncomputable def lo (pr : Nat → Nat) (N : Nat) : List Nat := Classical.choose (od_ex pr N)
theorem lo_od (pr : Nat → Nat) (N : Nat) : od pr N (lo pr N) := Classical.choose_spec (od_ex pr N)
theorem lo_eq {pr : Nat → Nat} {N : Nat} {l : List Nat} (h : od pr N l) : l = lo pr N := od_u h (lo_od pr N)
/-- the refused calls are counted alike -/
def rfE (I : Nat → Nat → Int32) : Prop := I kx_now_refused 0 = I mx_status 0 ∧ I kx_now_refused 1 = I mx_status 1 ∧ I kx_now_refused 2 = I mx_status 2
/-- what is kept by an image too -/
def SP (I : Nat → Nat → Int32) (S T N : Nat) (sd : Nat → Bool) (e1 e2 pr fm : Nat → Nat) (l : List Nat) (E : Nat) (h : Nat → Nat → Nat) (o m : Nat) (ac : Nat → Ac) (rr : Nat → Nat → Int32) (mn : Nat) (cb : Nat → Nat) (ib : Nat → Bool) : Prop :=
  kC I S N sd e1 e2 pr fm l ∧ mC I S N sd e1 e2 pr fm l ∧ cH I (e0 m ac E) E h ∧ mH (I mx_now) E h ∧ aK I o m ac ∧ aM I m rr ∧ aX N e1 e2 fm h E m ac rr ∧ E ≤ 24 * T ∧ I kx_now 3 = nI mn ∧ nR I mn cb ib ∧ rfE I
def ST (I : Nat → Nat → Int32) (S T : Nat) : Prop := ∃ (N : Nat) (sd : Nat → Bool) (e1 e2 pr fm : Nat → Nat) (l : List Nat) (E : Nat) (h : Nat → Nat → Nat) (o m : Nat) (ac : Nat → Ac) (rr : Nat → Nat → Int32) (mn : Nat) (cb : Nat → Nat) (ib : Nat → Bool), SP I S T N sd e1 e2 pr fm l E h o m ac rr mn cb ib
def NW (I : Nat → Nat → Int32) (S T : Nat) : Prop := ∃ (N : Nat) (sd : Nat → Bool) (e1 e2 pr fm : Nat → Nat) (l : List Nat) (E : Nat) (h : Nat → Nat → Nat) (o m : Nat) (ac : Nat → Ac) (rr : Nat → Nat → Int32) (mn : Nat) (cb : Nat → Nat) (ib : Nat → Bool), SP I S T N sd e1 e2 pr fm l E h o m ac rr mn cb ib ∧ kN I S e1 e2 pr (kr e1 e2 (l.filter sd))
/-- a byte of the tape, as the class has it -/
def sb (b : Nat) : Int32 := if b < 128 then nI b else nI b - 256
/-- the tape and the place of the fault -/
def TP (I : Nat → Nat → Int32) : Prop := I kx 2 = I mx 17 ∧ ∃ (f : Nat) (b : Nat → Nat), I kx 1 = nI f ∧ I mx 8 = nI f ∧ f ≤ 700 ∧ ∀ j, j < f → b j < 256 ∧ I kx_tape j = sb (b j) ∧ I mx_tape j = nI (b j)
/-- where an image keeps a cell -/
def vc (c : Nat) : Nat := if c = kx_now then kx_kept else if c = kx_now_cables then kx_kept_cables else if c = kx_now_cables_first then kx_kept_cables_first else if c = kx_now_cables_second then kx_kept_cables_second else if c = kx_now_cables_price then kx_kept_cables_price else if c = kx_now_cables_firm then kx_kept_cables_firm else if c = kx_now_cables_order then kx_kept_cables_order else if c = kx_now_swaps then kx_kept_swaps else if c = kx_now_swaps_rows then kx_kept_swaps_rows else if c = kx_now_acts then kx_kept_acts else if c = kx_now_acts_prices then kx_kept_acts_prices else if c = kx_now_acts_counts then kx_kept_acts_counts else if c = kx_now_acts_sounds then kx_kept_acts_sounds else if c = kx_now_acts_swaps then kx_kept_acts_swaps else if c = kx_now_refused then kx_kept_refused else if c = mx_now then mx_imageRow else if c = mx_past then mx_pastThen else if c = mx_notedCable then mx_notedCableThen else if c = mx_notedIn then mx_notedInThen else if c = mx_status then mx_statusThen else c
def vw (I : Nat → Nat → Int32) : Nat → Nat → Int32 := fun c k => if c = mx then (if k = 41 then I mx 53 else if k = 43 then I mx 54 else I mx k) else I (vc c) k
def IM (I : Nat → Nat → Int32) (S T : Nat) : Prop := I kx 5 = I mx 52 ∧ (I kx 5 = 0 ∨ I kx 5 = 1 ∧ ST (vw I) S T)
/-- the class and the model hold the same -/
def RR (I : Nat → Nat → Int32) (T : Nat) : Prop := ∃ S, NW I S T ∧ TP I ∧ IM I S T
/-- the cells that the state speaks of, but for the refused -/
def ceq (J I : Nat → Nat → Int32) : Prop := (∀ k, 3 ≤ k → k < 6 → J kx_now k = I kx_now k) ∧ (∀ k, k < 3 → J kx_now_cables k = I kx_now_cables k) ∧ (∀ k, k < 24 → J kx_now_cables_first k = I kx_now_cables_first k) ∧ (∀ k, k < 24 → J kx_now_cables_second k = I kx_now_cables_second k) ∧ (∀ k, k < 24 → J kx_now_cables_price k = I kx_now_cables_price k) ∧ (∀ k, k < 24 → J kx_now_cables_firm k = I kx_now_cables_firm k) ∧ (∀ k, k < 24 → J kx_now_cables_order k = I kx_now_cables_order k) ∧ J kx_now_swaps 1 = I kx_now_swaps 1 ∧ (∀ k, k < 1024 → J kx_now_swaps_rows k = I kx_now_swaps_rows k) ∧ J kx_now_acts 4 = I kx_now_acts 4 ∧ J kx_now_acts 5 = I kx_now_acts 5 ∧ (∀ k, k < 960 → J kx_now_acts_prices k = I kx_now_acts_prices k) ∧ (∀ k, k < 40 → J kx_now_acts_counts k = I kx_now_acts_counts k) ∧ (∀ k, k < 40 → J kx_now_acts_sounds k = I kx_now_acts_sounds k) ∧ (∀ k, k < 40 → J kx_now_acts_swaps k = I kx_now_acts_swaps k) ∧ (∀ k, k < 399 → J mx_now k = I mx_now k) ∧ (∀ k, k < 15960 → J mx_past k = I mx_past k) ∧ (∀ k, k < 8 → J mx_notedCable k = I mx_notedCable k) ∧ (∀ k, k < 8 → J mx_notedIn k = I mx_notedIn k) ∧ J mx 2 = I mx 2 ∧ J mx 41 = I mx 41 ∧ J mx 43 = I mx 43
section STA
variable {I J : Nat → Nat → Int32} {S T N : Nat} {sd : Nat → Bool} {e1 e2 pr fm : Nat → Nat} {l : List Nat} {E : Nat} {h : Nat → Nat → Nat} {o m : Nat} {ac : Nat → Ac} {rr : Nat → Nat → Int32} {mn : Nat} {cb : Nat → Nat} {ib : Nat → Bool}
theorem SP_cong (q : ceq J I) (hr : rfE J) (hs : SP I S T N sd e1 e2 pr fm l E h o m ac rr mn cb ib) : SP J S T N sd e1 e2 pr fm l E h o m ac rr mn cb ib := by
  obtain ⟨q1, q2, q3, q4, q5, q6, q7, q8, q9, q10, q11, q12, q13, q14, q15, q16, q17, q18, q19, q20, q21, q22⟩ := q
  obtain ⟨⟨⟨p1, p2, p3, p4, p5, p6, p7, p8⟩, c2, c3, c4, c5, c6⟩, ⟨⟨n1, n2, n3, n4, n5, n6⟩, m2, m3, m4, m5⟩, ⟨h1, h2, h3, h4⟩, ⟨g1, g2⟩, ⟨a1, a2, a3, a4, a5⟩, ⟨b1, b2, b3⟩, hx, hE, u1, ⟨v1, v2, v3, v4, v5⟩, _⟩ := hs
  refine ⟨⟨⟨by rw [q2 0 (by omega)]; exact p1, by rw [q2 1 (by omega)]; exact p2, p3, p4, p5, fun i hi => by rw [q7 i (by omega)]; exact p6 i hi, p7, fun k hk => by rw [q3 k (by omega), q4 k (by omega), q5 k (by omega)]; exact p8 k hk⟩, c2, c3, fun k hk => by rw [q2 2 (by omega)]; exact c4 k hk, c5, fun k hk => by rw [q6 k (by omega)]; exact c6 k hk⟩,
    ⟨⟨by rw [q20]; exact n1, by rw [q16 0 (by omega)]; exact n2, n3, n4, n5, fun k hk => by rw [q16 (3 + k) (by omega), q16 (27 + k) (by omega), q16 (51 + k) (by omega)]; exact n6 k hk⟩, m2, fun k hk => by rw [q16 1 (by omega)]; exact m3 k hk, m4, fun k hk => by rw [q16 (75 + k) (by omega)]; exact m5 k hk⟩,
    ⟨by rw [q8]; exact h1, h2, h3, fun j hj hk => by rw [q9 _ (Nat.mod_lt _ (by omega))]; exact h4 j hj hk⟩,
    ⟨by rw [q16 2 (by omega)]; exact g1, fun j hj hk q hq => by rw [q16 _ (by omega)]; exact g2 j hj hk q hq⟩,
    ⟨by rw [q10]; exact a1, a2, by rw [q11]; exact a3, a4, fun a ha => ?_⟩,
    ⟨by rw [q21]; exact b1, b2, fun a ha j hj => by rw [q17 _ (by omega)]; exact b3 a ha j hj⟩, hx, hE, by rw [q1 3 (by omega) (by omega)]; exact u1,
    ⟨by rw [q22]; exact v1, v2, fun i hi => by rw [q18 i (by omega), q19 i (by omega)]; exact v3 i hi, fun k hk => by rw [q1 4 (by omega) (by omega)]; exact v4 k hk, fun k hk => by rw [q1 5 (by omega) (by omega)]; exact v5 k hk⟩, hr⟩
  obtain ⟨x1, x2, x3, x4, x5⟩ := a5 a ha
  have hp : (o + a) % 40 < 40 := Nat.mod_lt _ (by omega)
  rw [q13 _ hp, q14 _ hp, q15 _ hp]
  exact ⟨x1, x2, fun k hk => by rw [q12 _ (by omega)]; exact x3 k hk, x4, x5⟩
theorem kN_cong (h : ∀ c, knc c → J c = I c) {s : List Nat × (Nat → Nat)} (hq : kN I S e1 e2 pr s) : kN J S e1 e2 pr s := by
  unfold kN wyC wyA at *
  rw [h kx_forest (by unfold knc; decide), h kx_forest_order (by unfold knc; decide), h kx_forest_piece (by unfold knc; decide), h kx_ways (by unfold knc; decide), h kx_ways_span (by unfold knc; decide), h kx_ways_hops (by unfold knc; decide), h kx_ways_step (by unfold knc; decide), h kx_ways_dearest (by unfold knc; decide)]
  exact hq
theorem vw_mx {k : Nat} : vw I mx k = if k = 41 then I mx 53 else if k = 43 then I mx 54 else I mx k := if_pos rfl
theorem vw_o {c c' : Nat} (h1 : c ≠ mx) (h2 : vc c = c') : vw I c = I c' := by
  funext k
  show (if c = mx then _ else I (vc c) k) = I c' k
  rw [if_neg h1, h2]
/-- the image's cells -/
def ic (c : Nat) : Prop := c = kx_kept ∨ c = kx_kept_cables ∨ c = kx_kept_cables_first ∨ c = kx_kept_cables_second ∨ c = kx_kept_cables_price ∨ c = kx_kept_cables_firm ∨ c = kx_kept_cables_order ∨ c = kx_kept_swaps ∨ c = kx_kept_swaps_rows ∨ c = kx_kept_acts ∨ c = kx_kept_acts_prices ∨ c = kx_kept_acts_counts ∨ c = kx_kept_acts_sounds ∨ c = kx_kept_acts_swaps ∨ c = kx_kept_refused ∨ c = mx_imageRow ∨ c = mx_pastThen ∨ c = mx_notedCableThen ∨ c = mx_notedInThen ∨ c = mx_statusThen
theorem vw_all : (vw I kx_now = I kx_kept ∧ vw I kx_now_cables = I kx_kept_cables ∧ vw I kx_now_cables_first = I kx_kept_cables_first ∧ vw I kx_now_cables_second = I kx_kept_cables_second ∧ vw I kx_now_cables_price = I kx_kept_cables_price ∧ vw I kx_now_cables_firm = I kx_kept_cables_firm ∧ vw I kx_now_cables_order = I kx_kept_cables_order ∧ vw I kx_now_swaps = I kx_kept_swaps ∧ vw I kx_now_swaps_rows = I kx_kept_swaps_rows) ∧ (vw I kx_now_acts = I kx_kept_acts ∧ vw I kx_now_acts_prices = I kx_kept_acts_prices ∧ vw I kx_now_acts_counts = I kx_kept_acts_counts ∧ vw I kx_now_acts_sounds = I kx_kept_acts_sounds ∧ vw I kx_now_acts_swaps = I kx_kept_acts_swaps ∧ vw I kx_now_refused = I kx_kept_refused) ∧ (vw I mx_now = I mx_imageRow ∧ vw I mx_past = I mx_pastThen ∧ vw I mx_notedCable = I mx_notedCableThen ∧ vw I mx_notedIn = I mx_notedInThen ∧ vw I mx_status = I mx_statusThen) :=
  ⟨⟨vw_o (by decide) (by decide), vw_o (by decide) (by decide), vw_o (by decide) (by decide), vw_o (by decide) (by decide), vw_o (by decide) (by decide), vw_o (by decide) (by decide), vw_o (by decide) (by decide), vw_o (by decide) (by decide), vw_o (by decide) (by decide)⟩, ⟨vw_o (by decide) (by decide), vw_o (by decide) (by decide), vw_o (by decide) (by decide), vw_o (by decide) (by decide), vw_o (by decide) (by decide), vw_o (by decide) (by decide)⟩, ⟨vw_o (by decide) (by decide), vw_o (by decide) (by decide), vw_o (by decide) (by decide), vw_o (by decide) (by decide), vw_o (by decide) (by decide)⟩⟩
theorem IM_fr {T' : Nat} (hT : T ≤ T') (hi : ∀ c, ic c → J c = I c) (j5 : J kx 5 = I kx 5) (m2 : J mx 2 = I mx 2) (m52 : J mx 52 = I mx 52) (m53 : J mx 53 = I mx 53) (m54 : J mx 54 = I mx 54) (hM : IM I S T) : IM J S T' := by
  obtain ⟨h1, h2⟩ := hM
  refine ⟨by rw [j5, m52]; exact h1, ?_⟩
  rcases h2 with h2 | ⟨h2, N, sd, e1, e2, pr, fm, l, E, h, o, m, ac, rr, mn, cb, ib, hs⟩
  · exact Or.inl (by rw [j5]; exact h2)
  · refine Or.inr ⟨by rw [j5]; exact h2, N, sd, e1, e2, pr, fm, l, E, h, o, m, ac, rr, mn, cb, ib, ?_⟩
    obtain ⟨⟨a1, a2, a3, a4, a5, a6, a7, a8, a9⟩, ⟨b1, b2, b3, b4, b5, b6⟩, ⟨d1, d2, d3, d4, d5⟩⟩ := vw_all (I := I)
    obtain ⟨⟨a1', a2', a3', a4', a5', a6', a7', a8', a9'⟩, ⟨b1', b2', b3', b4', b5', b6'⟩, ⟨d1', d2', d3', d4', d5'⟩⟩ := vw_all (I := J)
    have z : ∀ c, ic c → J c = I c := hi
    have hs' : SP (vw J) S T N sd e1 e2 pr fm l E h o m ac rr mn cb ib := by
      refine SP_cong (I := vw I) ?_ ?_ hs
      · unfold ceq
        rw [a1, a2, a3, a4, a5, a6, a7, a8, a9, b1, b2, b3, b4, b5, d1, d2, d3, d4, a1', a2', a3', a4', a5', a6', a7', a8', a9', b1', b2', b3', b4', b5', d1', d2', d3', d4']
        rw [z kx_kept (by unfold ic; decide), z kx_kept_cables (by unfold ic; decide), z kx_kept_cables_first (by unfold ic; decide), z kx_kept_cables_second (by unfold ic; decide), z kx_kept_cables_price (by unfold ic; decide), z kx_kept_cables_firm (by unfold ic; decide), z kx_kept_cables_order (by unfold ic; decide), z kx_kept_swaps (by unfold ic; decide), z kx_kept_swaps_rows (by unfold ic; decide), z kx_kept_acts (by unfold ic; decide), z kx_kept_acts_prices (by unfold ic; decide), z kx_kept_acts_counts (by unfold ic; decide), z kx_kept_acts_sounds (by unfold ic; decide), z kx_kept_acts_swaps (by unfold ic; decide), z mx_imageRow (by unfold ic; decide), z mx_pastThen (by unfold ic; decide), z mx_notedCableThen (by unfold ic; decide), z mx_notedInThen (by unfold ic; decide)]
        refine ⟨fun _ _ _ => rfl, fun _ _ => rfl, fun _ _ => rfl, fun _ _ => rfl, fun _ _ => rfl, fun _ _ => rfl, fun _ _ => rfl, rfl, fun _ _ => rfl, rfl, rfl, fun _ _ => rfl, fun _ _ => rfl, fun _ _ => rfl, fun _ _ => rfl, fun _ _ => rfl, fun _ _ => rfl, fun _ _ => rfl, fun _ _ => rfl, ?_, ?_, ?_⟩
        · rw [vw_mx, vw_mx]; exact m2
        · rw [vw_mx, vw_mx]; exact m53
        · rw [vw_mx, vw_mx]; exact m54
      · have hr := hs.2.2.2.2.2.2.2.2.2.2
        unfold rfE at *
        rw [b6, d5] at hr
        rw [b6', d5', z kx_kept_refused (by unfold ic; decide), z mx_statusThen (by unfold ic; decide)]
        exact hr
    obtain ⟨y1, y2, y3, y4, y5, y6, y7, y8, y9⟩ := hs'
    exact ⟨y1, y2, y3, y4, y5, y6, y7, by omega, y9⟩
theorem TP_fr (k1 : J kx 1 = I kx 1) (k2 : J kx 2 = I kx 2) (m17 : J mx 17 = I mx 17) (m8 : J mx 8 = I mx 8) (t1 : J kx_tape = I kx_tape) (t2 : J mx_tape = I mx_tape) (h : TP I) : TP J := by
  obtain ⟨h1, f, b, h2, h3, h4, h5⟩ := h
  exact ⟨by rw [k2, m17]; exact h1, f, b, by rw [k1]; exact h2, by rw [m8]; exact h3, h4, fun j hj => by rw [t1, t2]; exact h5 j hj⟩
theorem SP_T {T' : Nat} (hT : T ≤ T') (hs : SP I S T N sd e1 e2 pr fm l E h o m ac rr mn cb ib) : SP I S T' N sd e1 e2 pr fm l E h o m ac rr mn cb ib := by
  obtain ⟨y1, y2, y3, y4, y5, y6, y7, y8, y9⟩ := hs
  exact ⟨y1, y2, y3, y4, y5, y6, y7, by omega, y9⟩
/-- questions leave all as it is -/
theorem RR_q {K : Nat → Nat → Int32} {T' : Nat} (hT : T ≤ T') (hk : kfr J I) (hm : mgr K J) (hR : RR I T) : RR K T' := by
  obtain ⟨S, ⟨N, sd, e1, e2, pr, fm, l, E, h, o, m, ac, rr, mn, cb, ib, hs, hn⟩, ht, hi⟩ := hR
  have z : ∀ c, ¬ kscr c → ¬ mscr c → K c = I c := fun c h1 h2 => (hm.1 c h2).trans (hk c h1)
  have zm : ∀ k, mkf k → k ≠ 1 → K mx k = I mx k := fun k h1 h2 => (hm.2 k h1 h2).trans (by rw [hk mx (by unfold kscr; decide)])
  have zz : ∀ c, (¬ kscr c ∧ ¬ mscr c) → K c = I c := fun c h => z c h.1 h.2
  have m2 := zm 2 (by unfold mkf; decide) (by decide)
  have m8 := zm 8 (by unfold mkf; decide) (by decide)
  have m17 := zm 17 (by unfold mkf; decide) (by decide)
  have m41 := zm 41 (by unfold mkf; decide) (by decide)
  have m43 := zm 43 (by unfold mkf; decide) (by decide)
  have m52 := zm 52 (by unfold mkf; decide) (by decide)
  have m53 := zm 53 (by unfold mkf; decide) (by decide)
  have m54 := zm 54 (by unfold mkf; decide) (by decide)
  have kx' := zz kx (by unfold kscr mscr; decide)
  refine ⟨S, ⟨N, sd, e1, e2, pr, fm, l, E, h, o, m, ac, rr, mn, cb, ib, SP_T hT (SP_cong (I := I) ?_ ?_ hs), kN_cong (fun c hc => ?_) hn⟩, TP_fr (by rw [kx']) (by rw [kx']) m17 m8 (zz _ (by unfold kscr mscr; decide)) (zz _ (by unfold kscr mscr; decide)) ht, IM_fr hT (fun c hc => ?_) (by rw [kx']) m2 m52 m53 m54 hi⟩
  · unfold ceq
    rw [zz kx_now (by unfold kscr mscr; decide), zz kx_now_cables (by unfold kscr mscr; decide), zz kx_now_cables_first (by unfold kscr mscr; decide), zz kx_now_cables_second (by unfold kscr mscr; decide), zz kx_now_cables_price (by unfold kscr mscr; decide), zz kx_now_cables_firm (by unfold kscr mscr; decide), zz kx_now_cables_order (by unfold kscr mscr; decide), zz kx_now_swaps (by unfold kscr mscr; decide), zz kx_now_swaps_rows (by unfold kscr mscr; decide), zz kx_now_acts (by unfold kscr mscr; decide), zz kx_now_acts_prices (by unfold kscr mscr; decide), zz kx_now_acts_counts (by unfold kscr mscr; decide), zz kx_now_acts_sounds (by unfold kscr mscr; decide), zz kx_now_acts_swaps (by unfold kscr mscr; decide), zz mx_now (by unfold kscr mscr; decide), zz mx_past (by unfold kscr mscr; decide), zz mx_notedCable (by unfold kscr mscr; decide), zz mx_notedIn (by unfold kscr mscr; decide)]
    exact ⟨fun _ _ _ => rfl, fun _ _ => rfl, fun _ _ => rfl, fun _ _ => rfl, fun _ _ => rfl, fun _ _ => rfl, fun _ _ => rfl, rfl, fun _ _ => rfl, rfl, rfl, fun _ _ => rfl, fun _ _ => rfl, fun _ _ => rfl, fun _ _ => rfl, fun _ _ => rfl, fun _ _ => rfl, fun _ _ => rfl, fun _ _ => rfl, m2, m41, m43⟩
  · have hr := hs.2.2.2.2.2.2.2.2.2.2
    unfold rfE at *
    rw [zz kx_now_refused (by unfold kscr mscr; decide), zz mx_status (by unfold kscr mscr; decide)]
    exact hr
  · unfold knc at hc
    rcases hc with e | e | e | e | e | e | e | e <;> subst e <;> exact zz _ (by unfold kscr mscr; decide)
  · unfold ic at hc
    rcases hc with e | e | e | e | e | e | e | e | e | e | e | e | e | e | e | e | e | e | e | e <;> subst e <;> exact zz _ (by unfold kscr mscr; decide)
/-- what the questions want to know -/
theorem RR_Q (g : RR I T) (hT : T ≤ 1000) : ∃ (S N : Nat) (sd : Nat → Bool) (e1 e2 pr fm : Nat → Nat) (l : List Nat), RQ I S N sd e1 e2 pr fm l ∧ (∃ E h, hR I E h) ∧ ∃ mn cb ib, nR I mn cb ib := by
  obtain ⟨S, ⟨N, sd, e1, e2, pr, fm, l, E, h, o, m, ac, rr, mn, cb, ib, hs, hn⟩, ⟨_, f, b, t1, t2, _⟩, hi⟩ := g
  obtain ⟨y1, y2, y3, y4, y5, y6, y7, y8, y9, y10, y11⟩ := hs
  refine ⟨S, N, sd, e1, e2, pr, fm, l, ⟨⟨y1, hn⟩, y2, by rw [y3.1, y4.1], by rw [y5.2.2.1, y6.1], by rw [y9, y10.1], by rw [t1, t2], y11⟩, ⟨E, h, y3.1, y4.1, by omega, fun j h1 h2 => ?_⟩, mn, cb, ib, y10⟩
  have q := y3.2.1
  obtain ⟨z1, z2⟩ := y3.2.2.2 j h1 (by omega)
  exact ⟨z1, z2, fun q hq => y4.2 j h1 h2 q hq⟩
end STA
