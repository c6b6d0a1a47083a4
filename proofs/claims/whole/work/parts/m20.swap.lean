/-! ONE CABLE'S PRICE, and what becomes of THE NET -/
def inN (e1 e2 pr : Nat → Nat) (N : Nat) (am : Nat → Bool) (c : Nat) : Prop := c < N ∧ am c = true ∧ ¬ cn e1 e2 (fun k => k < N ∧ am k = true ∧ ch pr k c) (e1 c) (e2 c)
theorem ch_m {pr : Nat → Nat} {N a b : Nat} (ha : a < N) (hb : b < N) : ch pr a b ↔ pr a * N + a < pr b * N + b := by
  unfold ch
  constructor
  · rintro (h | ⟨h, g⟩)
    · have : (pr a + 1) * N ≤ pr b * N := Nat.mul_le_mul_right _ h
      rw [Nat.add_mul, Nat.one_mul] at this
      omega
    · rw [h]; omega
  · intro h
    by_cases e : pr a < pr b
    · exact Or.inl e
    · by_cases e' : pr a = pr b
      · rw [e'] at h; exact Or.inr ⟨e', by omega⟩
      · have : (pr b + 1) * N ≤ pr a * N := Nat.mul_le_mul_right _ (by omega)
        rw [Nat.add_mul, Nat.one_mul] at this
        omega
/-- there is an ordered row -/
theorem od_ex (pr : Nat → Nat) : ∀ N, ∃ l, od pr N l := by
  intro N
  induction N with
  | zero => exact ⟨[], List.Pairwise.nil, fun k => ⟨fun h => absurd h (by simp), fun h => absurd h (Nat.not_lt_zero k)⟩⟩
  | succ N ih =>
    obtain ⟨l, h1, h2⟩ := ih
    have ins : ∀ (l : List Nat), l.Pairwise (ch pr) → (∀ k ∈ l, k < N) → ∃ l' : List Nat, l'.Pairwise (ch pr) ∧ ∀ k, k ∈ l' ↔ (k = N ∨ k ∈ l) := by
      intro l
      induction l with
      | nil => intro _ _; exact ⟨[N], List.pairwise_singleton _ _, fun k => by simp⟩
      | cons c l ih =>
        intro hp hN
        rw [List.pairwise_cons] at hp
        by_cases hc : ch pr N c
        · refine ⟨N :: c :: l, ?_, fun k => by simp⟩
          rw [List.pairwise_cons, List.pairwise_cons]
          exact ⟨fun k hk => by
            rcases List.mem_cons.mp hk with e | h
            · rw [e]; exact hc
            · exact ch_trans hc (hp.1 k h), hp⟩
        · obtain ⟨l', g1, g2⟩ := ih hp.2 (fun k hk => hN k (List.mem_cons_of_mem _ hk))
          refine ⟨c :: l', ?_, fun k => by rw [List.mem_cons, g2, List.mem_cons]; exact ⟨fun h => by rcases h with h | h | h; exact Or.inr (Or.inl h); exact Or.inl h; exact Or.inr (Or.inr h), fun h => by rcases h with h | h | h; exact Or.inr (Or.inl h); exact Or.inl h; exact Or.inr (Or.inr h)⟩⟩
          rw [List.pairwise_cons]
          refine ⟨fun k hk => ?_, g1⟩
          rcases (g2 k).mp hk with e | h
          · rw [e]
            have := hN c List.mem_cons_self
            exact (ch_total (by omega)).resolve_left hc
          · exact hp.1 k h
    obtain ⟨l', g1, g2⟩ := ins l h1 (fun k hk => (h2 k).mp hk)
    exact ⟨l', g1, fun k => by rw [g2, h2]; omega⟩
section SWP
variable {e1 e2 pr : Nat → Nat} {N : Nat} {am : Nat → Bool}
/-- what is cheaper than something is joined by cables of THE NET that are -/
theorem inN_span (X : Nat → Prop) (hX : ∀ a b, ch pr a b → X b → X a) {x y : Nat} (h : cn e1 e2 (fun j => j < N ∧ am j = true ∧ X j) x y) : cn e1 e2 (fun j => inN e1 e2 pr N am j ∧ X j) x y := by
  have key : ∀ m c, pr c * N + c < m → c < N → am c = true → X c → cn e1 e2 (fun j => inN e1 e2 pr N am j ∧ X j) (e1 c) (e2 c) := by
    intro m
    induction m with
    | zero => intro c h; omega
    | succ m ih =>
      intro c hm hc ha hx
      by_cases hi : inN e1 e2 pr N am c
      · exact cn_edge ⟨hi, hx⟩
      · have : cn e1 e2 (fun k => k < N ∧ am k = true ∧ ch pr k c) (e1 c) (e2 c) := Classical.byContradiction fun g => hi ⟨hc, ha, g⟩
        refine cn_of_all (fun j hj => ?_) this
        have := (ch_m hj.1 hc).mp hj.2.2
        exact ih j (by omega) hj.1 hj.2.1 (hX j c hj.2.2 hx)
  exact cn_of_all (fun c hc => key _ c (Nat.lt_succ_self _) hc.1 hc.2.1 hc.2.2) h
/-- the cable that a cable k changes places with -/
def bn (e1 e2 pr : Nat → Nat) (N : Nat) (am : Nat → Bool) (k q : Nat) : Prop := q < N ∧ am q = true ∧ q ≠ k ∧ ¬ cn e1 e2 (fun j => j < N ∧ (am j = true ∧ j ≠ k) ∧ ch pr j q) (e1 q) (e2 q) ∧ ∃ a b, ed e1 e2 q a b ∧ cn e1 e2 (fun j => j < N ∧ (am j = true ∧ j ≠ k) ∧ ch pr j q) (e1 k) a ∧ cn e1 e2 (fun j => j < N ∧ (am j = true ∧ j ≠ k) ∧ ch pr j q) b (e2 k)
/-- in THE NET without k -/
def in0 (e1 e2 pr : Nat → Nat) (N : Nat) (am : Nat → Bool) (k j : Nat) : Prop := j < N ∧ (am j = true ∧ j ≠ k) ∧ ¬ cn e1 e2 (fun i => i < N ∧ (am i = true ∧ i ≠ k) ∧ ch pr i j) (e1 j) (e2 j)
theorem upd_ne {f : Nat → Nat} {k v j : Nat} (h : j ≠ k) : (fun j => if j = k then v else f j) j = f j := if_neg h
theorem ch_upd {k v i j : Nat} (hi : i ≠ k) (hj : j ≠ k) : ch (fun j => if j = k then v else pr j) i j ↔ ch pr i j := by
  unfold ch
  simp only [if_neg hi, if_neg hj]
/-- k itself: where there is a cable to change places with -/
theorem swp_k {k q v : Nat} (hk : k < N) (ha : am k = true) (hb : bn e1 e2 pr N am k q) : inN e1 e2 (fun j => if j = k then v else pr j) N am k ↔ ch (fun j => if j = k then v else pr j) k q := by
  obtain ⟨q1, q2, q3, q4, a, b, q5, q6, q7⟩ := hb
  constructor
  · intro h
    refine Classical.byContradiction fun g => h.2.2 ?_
    have g' : ch (fun j => if j = k then v else pr j) q k := (ch_total (fun e => q3 e.symm)).resolve_left g
    have up : ∀ {u w}, cn e1 e2 (fun j => j < N ∧ (am j = true ∧ j ≠ k) ∧ ch pr j q) u w → cn e1 e2 (fun j => j < N ∧ am j = true ∧ ch (fun j => if j = k then v else pr j) j k) u w := fun h => cn_mono (fun j hj => ⟨hj.1, hj.2.1.1, ch_trans ((ch_upd hj.2.1.2 q3).mpr hj.2.2) g'⟩) h
    exact cn_trans (cn_trans (up q6) (ed_cn q5 ⟨q1, q2, g'⟩)) (up q7)
  · intro h
    refine ⟨hk, ha, fun g => q4 ?_⟩
    have g' : cn e1 e2 (fun j => j < N ∧ (am j = true ∧ j ≠ k) ∧ ch pr j q) (e1 k) (e2 k) := cn_mono (fun j hj => by
      have hjk : j ≠ k := fun e => by rw [e] at hj; exact ch_irrefl hj.2.2
      exact ⟨hj.1, ⟨hj.2.1, hjk⟩, (ch_upd hjk q3).mp (ch_trans hj.2.2 h)⟩) g
    have hab := cn_trans (cn_trans (cn_symm q6) g') (cn_symm q7)
    rcases q5 with ⟨h1, h2⟩ | ⟨h1, h2⟩
    · rw [h1, h2] at hab; exact hab
    · rw [h1, h2] at hab; exact cn_symm hab
/-- the others, where k stays outside -/
theorem swp_out {k q v j : Nat} (hb : bn e1 e2 pr N am k q) (hq : ¬ ch (fun j => if j = k then v else pr j) k q) (hj : j ≠ k) : inN e1 e2 (fun j => if j = k then v else pr j) N am j ↔ in0 e1 e2 pr N am k j := by
  obtain ⟨q1, q2, q3, q4, a, b, q5, q6, q7⟩ := hb
  have g' : ch (fun j => if j = k then v else pr j) q k := (ch_total (fun e => q3 e.symm)).resolve_left hq
  constructor
  · rintro ⟨h1, h2, h3⟩
    exact ⟨h1, ⟨h2, hj⟩, fun g => h3 (cn_mono (fun i hi => ⟨hi.1, hi.2.1.1, (ch_upd hi.2.1.2 hj).mpr hi.2.2⟩) g)⟩
  · rintro ⟨h1, ⟨h2, -⟩, h3⟩
    refine ⟨h1, h2, fun g => h3 ?_⟩
    refine cn_of_all (fun i hi => ?_) g
    by_cases e : i = k
    · subst e
      have hqj : ch pr q j := (ch_upd q3 hj).mp (ch_trans g' hi.2.2)
      have up : ∀ {u w}, cn e1 e2 (fun j => j < N ∧ (am j = true ∧ j ≠ i) ∧ ch pr j q) u w → cn e1 e2 (fun k => k < N ∧ (am k = true ∧ k ≠ i) ∧ ch pr k j) u w := fun h => cn_mono (fun x hx => ⟨hx.1, hx.2.1, ch_trans hx.2.2 hqj⟩) h
      exact cn_trans (cn_trans (up q6) (ed_cn q5 ⟨q1, ⟨q2, q3⟩, hqj⟩)) (up q7)
    · exact cn_edge ⟨hi.1, ⟨hi.2.1, e⟩, (ch_upd e hj).mp hi.2.2⟩
/-- the others, where k is in -/
theorem swp_in {k q v j : Nat} (hk : k < N) (ha : am k = true) (hb : bn e1 e2 pr N am k q) (hq : ch (fun j => if j = k then v else pr j) k q) (hj : j ≠ k) : inN e1 e2 (fun j => if j = k then v else pr j) N am j ↔ (in0 e1 e2 pr N am k j ∧ j ≠ q) := by
  obtain ⟨q1, q2, q3, q4, a, b, q5, q6, q7⟩ := hb
  constructor
  · rintro ⟨h1, h2, h3⟩
    refine ⟨⟨h1, ⟨h2, hj⟩, fun g => h3 (cn_mono (fun i hi => ⟨hi.1, hi.2.1.1, (ch_upd hi.2.1.2 hj).mpr hi.2.2⟩) g)⟩, fun e => h3 ?_⟩
    subst e
    have up : ∀ {u w}, cn e1 e2 (fun i => i < N ∧ (am i = true ∧ i ≠ k) ∧ ch pr i j) u w → cn e1 e2 (fun i => i < N ∧ am i = true ∧ ch (fun j => if j = k then v else pr j) i j) u w := fun h => cn_mono (fun x hx => ⟨hx.1, hx.2.1.1, (ch_upd hx.2.1.2 hj).mpr hx.2.2⟩) h
    have hab : cn e1 e2 (fun i => i < N ∧ am i = true ∧ ch (fun j => if j = k then v else pr j) i j) a b := cn_trans (cn_trans (cn_symm (up q6)) (cn_edge ⟨hk, ha, hq⟩)) (cn_symm (up q7))
    rcases q5 with ⟨h1, h2⟩ | ⟨h1, h2⟩
    · rw [h1, h2] at hab; exact hab
    · rw [h1, h2] at hab; exact cn_symm hab
  · rintro ⟨⟨h1, ⟨h2, -⟩, h3⟩, hjq⟩
    refine ⟨h1, h2, fun g => ?_⟩
    have g2 : cn e1 e2 (fun i => (i < N ∧ (am i = true ∧ i ≠ k) ∧ ch pr i j) ∨ i = k) (e1 j) (e2 j) := cn_mono (fun i hi => by
      by_cases e : i = k
      · exact Or.inr e
      · exact Or.inl ⟨hi.1, ⟨hi.2.1, e⟩, (ch_upd e hj).mp hi.2.2⟩) g
    -- the ends of k are joined by what is cheaper than j, and j
    have step : cn e1 e2 (fun i => (i < N ∧ (am i = true ∧ i ≠ k) ∧ ch pr i j) ∨ i = j) (e1 k) (e2 k) ∨ cn e1 e2 (fun i => i < N ∧ (am i = true ∧ i ≠ k) ∧ ch pr i j) (e1 j) (e2 j) := by
      have up : ∀ {u w}, cn e1 e2 (fun i => i < N ∧ (am i = true ∧ i ≠ k) ∧ ch pr i j) u w → cn e1 e2 (fun i => (i < N ∧ (am i = true ∧ i ≠ k) ∧ ch pr i j) ∨ i = j) u w := fun h => cn_mono (fun x hx => Or.inl hx) h
      have ej : cn e1 e2 (fun i => (i < N ∧ (am i = true ∧ i ≠ k) ∧ ch pr i j) ∨ i = j) (e1 j) (e2 j) := cn_edge (Or.inr rfl)
      rw [cn_add] at g2
      rcases g2 with g2 | ⟨g2, g3⟩ | ⟨g2, g3⟩
      · exact Or.inr g2
      · exact Or.inl (cn_trans (cn_trans (cn_symm (up g2)) ej) (cn_symm (up g3)))
      · exact Or.inl (cn_symm (cn_trans (cn_trans (cn_symm (up g2)) ej) (cn_symm (up g3))))
    rcases step with step | step
    · rcases ch_total (pr := pr) hjq with hjq' | hqj
      · -- j is cheaper than q
        have g9 : cn e1 e2 (fun j => j < N ∧ (am j = true ∧ j ≠ k) ∧ ch pr j q) (e1 k) (e2 k) := cn_mono (fun i hi => by
          rcases hi with hi | hi
          · exact ⟨hi.1, hi.2.1, ch_trans hi.2.2 hjq'⟩
          · rw [hi]; exact ⟨h1, ⟨h2, hj⟩, hjq'⟩) step
        have hab := cn_trans (cn_trans (cn_symm q6) g9) (cn_symm q7)
        rcases q5 with ⟨u1, u2⟩ | ⟨u1, u2⟩
        · rw [u1, u2] at hab; exact q4 hab
        · rw [u1, u2] at hab; exact q4 (cn_symm hab)
      · have up : ∀ {u w}, cn e1 e2 (fun j => j < N ∧ (am j = true ∧ j ≠ k) ∧ ch pr j q) u w → cn e1 e2 (fun i => i < N ∧ (am i = true ∧ i ≠ k) ∧ ch pr i j) u w := fun h => cn_mono (fun x hx => ⟨hx.1, hx.2.1, ch_trans hx.2.2 hqj⟩) h
        have hkk : cn e1 e2 (fun i => i < N ∧ (am i = true ∧ i ≠ k) ∧ ch pr i j) (e1 k) (e2 k) := cn_trans (cn_trans (up q6) (ed_cn q5 ⟨q1, ⟨q2, q3⟩, hqj⟩)) (up q7)
        refine h3 (cn_of_all (fun i hi => ?_) g2)
        rcases hi with hi | hi
        · exact cn_edge hi
        · rw [hi]; exact hkk
    · exact h3 step
/-- no other cables join the ends of k -/
theorem swp_none {k v j : Nat} (hk : k < N) (ha : am k = true) (hn : ¬ cn e1 e2 (fun j => j < N ∧ am j = true ∧ j ≠ k) (e1 k) (e2 k)) : inN e1 e2 (fun j => if j = k then v else pr j) N am k ∧ (j ≠ k → (inN e1 e2 (fun j => if j = k then v else pr j) N am j ↔ in0 e1 e2 pr N am k j)) := by
  refine ⟨⟨hk, ha, fun g => hn (cn_mono (fun i hi => ⟨hi.1, hi.2.1, fun e => by rw [e] at hi; exact ch_irrefl hi.2.2⟩) g)⟩, fun hj => ⟨?_, ?_⟩⟩
  · rintro ⟨h1, h2, h3⟩
    exact ⟨h1, ⟨h2, hj⟩, fun g => h3 (cn_mono (fun i hi => ⟨hi.1, hi.2.1.1, (ch_upd hi.2.1.2 hj).mpr hi.2.2⟩) g)⟩
  · rintro ⟨h1, ⟨h2, -⟩, h3⟩
    refine ⟨h1, h2, fun g => ?_⟩
    have g2 : cn e1 e2 (fun i => (i < N ∧ (am i = true ∧ i ≠ k) ∧ ch pr i j) ∨ i = k) (e1 j) (e2 j) := cn_mono (fun i hi => by
      by_cases e : i = k
      · exact Or.inr e
      · exact Or.inl ⟨hi.1, ⟨hi.2.1, e⟩, (ch_upd e hj).mp hi.2.2⟩) g
    have up : ∀ {u w}, cn e1 e2 (fun i => i < N ∧ (am i = true ∧ i ≠ k) ∧ ch pr i j) u w → cn e1 e2 (fun j => j < N ∧ am j = true ∧ j ≠ k) u w := fun h => cn_mono (fun x hx => ⟨hx.1, hx.2.1.1, hx.2.1.2⟩) h
    have ej : cn e1 e2 (fun j => j < N ∧ am j = true ∧ j ≠ k) (e1 j) (e2 j) := cn_edge ⟨h1, h2, hj⟩
    rw [cn_add] at g2
    rcases g2 with g2 | ⟨g2, g3⟩ | ⟨g2, g3⟩
    · exact h3 g2
    · exact hn (cn_trans (cn_trans (cn_symm (up g2)) ej) (cn_symm (up g3)))
    · exact hn (cn_symm (cn_trans (cn_trans (cn_symm (up g2)) ej) (cn_symm (up g3))))
theorem upd_self {k : Nat} : (fun j => if j = k then pr k else pr j) = pr := by
  funext j
  by_cases e : j = k
  · rw [if_pos e, e]
  · rw [if_neg e]
/-- a cable outside: the dearest of its ring -/
theorem bn_out {k q : Nat} {p p1 p2 : List Nat} {a b : Nat} (hk : ¬ inN e1 e2 pr N am k) (hp : p = p1 ++ q :: p2) (hpN : ∀ j ∈ p, inN e1 e2 pr N am j) (hd : dst pr p q) (hnd : p.Nodup) (h1 : cn e1 e2 (fun j => j ∈ p1) (e1 k) a) (he : ed e1 e2 q a b) (h2 : cn e1 e2 (fun j => j ∈ p2) b (e2 k)) : bn e1 e2 pr N am k q := by
  have hq := hpN q hd.1
  have hqk : q ≠ k := fun e => hk (e ▸ hq)
  rw [hp, List.nodup_append, List.nodup_cons] at hnd
  have c1 : ∀ j ∈ p1, j < N ∧ (am j = true ∧ j ≠ k) ∧ ch pr j q := fun j hj => by
    have hjp : j ∈ p := by rw [hp]; exact List.mem_append_left _ hj
    have := hpN j hjp
    refine ⟨this.1, ⟨this.2.1, fun e => hk (e ▸ this)⟩, (hd.2 j hjp).resolve_left (fun e => ?_)⟩
    exact hnd.2.2 j hj q List.mem_cons_self e
  have c2 : ∀ j ∈ p2, j < N ∧ (am j = true ∧ j ≠ k) ∧ ch pr j q := fun j hj => by
    have hjp : j ∈ p := by rw [hp]; exact List.mem_append_right _ (List.mem_cons_of_mem _ hj)
    have := hpN j hjp
    refine ⟨this.1, ⟨this.2.1, fun e => hk (e ▸ this)⟩, (hd.2 j hjp).resolve_left (fun e => ?_)⟩
    rw [e] at hj; exact hnd.2.1.1 hj
  exact ⟨hq.1, hq.2.1, hqk, fun g => hq.2.2 (cn_mono (fun j hj => ⟨hj.1, hj.2.1.1, hj.2.2⟩) g), a, b, he, cn_mono c1 h1, cn_mono c2 h2⟩
/-- a cable inside: the rival -/
theorem bn_in {k r : Nat} {P : Nat → Prop} (hk : inN e1 e2 pr N am k) (hr : r < N) (har : am r = true) (hrk : r ≠ k) (hP : ∀ j, inN e1 e2 pr N am j → j ≠ k → (P (e1 j) ↔ P (e2 j))) (hPr : ¬ (P (e1 r) ↔ P (e2 r))) (hmin : ∀ j, j < N → am j = true → j ≠ k → ¬ (P (e1 j) ↔ P (e2 j)) → j = r ∨ ch pr r j) : bn e1 e2 pr N am k r := by
  have t0 : ¬ cn e1 e2 (fun j => j < N ∧ (am j = true ∧ j ≠ k) ∧ ch pr j r) (e1 r) (e2 r) := fun g => by
    have inv : ∀ c, (c < N ∧ (am c = true ∧ c ≠ k) ∧ ch pr c r) → (P (e1 c) ↔ P (e2 c)) := fun c hc => Classical.byContradiction fun h => by
      rcases hmin c hc.1 hc.2.1.1 hc.2.1.2 h with e | e
      · rw [e] at hc; exact ch_irrefl hc.2.2
      · exact ch_asymm e hc.2.2
    exact hPr ⟨fun h => g P inv h, fun h => (cn_symm g) P inv h⟩
  have hrn : ¬ inN e1 e2 pr N am r := fun h => hPr (hP r h hrk)
  have hcr : cn e1 e2 (fun j => j < N ∧ am j = true ∧ ch pr j r) (e1 r) (e2 r) := Classical.byContradiction fun g => hrn ⟨hr, har, g⟩
  have hs := inN_span (fun j => ch pr j r) (fun a b h1 h2 => ch_trans h1 h2) hcr
  -- k among them, or not
  have hs2 : cn e1 e2 (fun j => (inN e1 e2 pr N am j ∧ j ≠ k ∧ ch pr j r) ∨ j = k) (e1 r) (e2 r) := cn_mono (fun j hj => by
    by_cases e : j = k
    · exact Or.inr e
    · exact Or.inl ⟨hj.1, e, hj.2⟩) hs
  have hno : ∀ {u w}, cn e1 e2 (fun j => inN e1 e2 pr N am j ∧ j ≠ k ∧ ch pr j r) u w → (P u ↔ P w) := fun g => ⟨fun h => g P (fun c hc => hP c hc.1 hc.2.1) h, fun h => (cn_symm g) P (fun c hc => hP c hc.1 hc.2.1) h⟩
  have up : ∀ {u w}, cn e1 e2 (fun j => inN e1 e2 pr N am j ∧ j ≠ k ∧ ch pr j r) u w → cn e1 e2 (fun j => j < N ∧ (am j = true ∧ j ≠ k) ∧ ch pr j r) u w := fun h => cn_mono (fun j hj => ⟨hj.1.1, ⟨hj.1.2.1, hj.2.1⟩, hj.2.2⟩) h
  rw [cn_add] at hs2
  rcases hs2 with g | ⟨g1, g2⟩ | ⟨g1, g2⟩
  · exact absurd (hno g) hPr
  · exact ⟨hr, har, hrk, t0, e1 r, e2 r, Or.inl ⟨rfl, rfl⟩, up (cn_symm g1), up (cn_symm g2)⟩
  · exact ⟨hr, har, hrk, t0, e2 r, e1 r, Or.inr ⟨rfl, rfl⟩, up g2, up g1⟩
end SWP
