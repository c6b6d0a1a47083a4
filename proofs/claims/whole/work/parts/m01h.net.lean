/-! CHEAPER: by the price, of like ones by the number; rows in that order -/
def ch (pr : Nat → Nat) (a b : Nat) : Prop := pr a < pr b ∨ (pr a = pr b ∧ a < b)
theorem ch_irrefl {pr : Nat → Nat} {a : Nat} : ¬ ch pr a a := fun h => by rcases h with h | h <;> omega
theorem ch_trans {pr : Nat → Nat} {a b c : Nat} (h : ch pr a b) (g : ch pr b c) : ch pr a c := by
  unfold ch at *; omega
theorem ch_total {pr : Nat → Nat} {a b : Nat} (h : a ≠ b) : ch pr a b ∨ ch pr b a := by
  unfold ch; omega
theorem ch_asymm {pr : Nat → Nat} {a b : Nat} (h : ch pr a b) : ¬ ch pr b a := by
  unfold ch at *; omega
/-- a row of all cables below N, the cheapest first -/
def od (pr : Nat → Nat) (N : Nat) (l : List Nat) : Prop := l.Pairwise (ch pr) ∧ ∀ k, k ∈ l ↔ k < N
theorem od_nodup {pr : Nat → Nat} {N : Nat} {l : List Nat} (h : od pr N l) : l.Nodup := by
  unfold List.Nodup
  refine h.1.imp ?_
  intro a b hab e
  subst e
  exact ch_irrefl hab
/-- what stands ahead of c in an ordered row is what is cheaper -/
theorem pw_ahead {pr : Nat → Nat} {l1 l2 : List Nat} {c : Nat} (h : (l1 ++ c :: l2).Pairwise (ch pr)) (k : Nat) : k ∈ l1 ↔ (k ∈ l1 ++ c :: l2 ∧ ch pr k c) := by
  rw [List.pairwise_append] at h
  obtain ⟨h1, h2, h3⟩ := h
  rw [List.pairwise_cons] at h2
  constructor
  · intro hk
    exact ⟨List.mem_append_left _ hk, h3 k hk c List.mem_cons_self⟩
  · rintro ⟨hk, hc⟩
    rcases List.mem_append.mp hk with h | h
    · exact h
    · rcases List.mem_cons.mp h with e | h
      · subst e; exact absurd hc ch_irrefl
      · exact absurd hc (ch_asymm (h2.1 k h))
section NET
variable {e1 e2 : Nat → Nat} {S : Nat}
/-- which edges of a row are taken: those whose ends what stands ahead doesn't join -/
theorem kr_mem : ∀ (l : List Nat), ew e1 e2 S l → l.Nodup → ∀ c, c ∈ (kr e1 e2 l).1 ↔ ∃ l1 l2, l = l1 ++ c :: l2 ∧ ¬ cn e1 e2 (fun k => k ∈ l1) (e1 c) (e2 c) := by
  intro l
  induction l using sn_ind with
  | nil =>
    intro _ _ c
    constructor
    · intro h; cases h
    · rintro ⟨l1, l2, h, -⟩
      cases l1 <;> cases h
  | append_singleton l b ih =>
    intro hl hn c
    have hl' : ew e1 e2 S l := fun k hk => hl k (List.mem_append_left _ hk)
    have hn' : l.Nodup := (List.nodup_append.mp hn).1
    have hb : b ∉ l := fun h => (List.nodup_append.mp hn).2.2 b h b List.mem_cons_self rfl
    have ih := ih hl' hn' c
    have kk := kr_kp l hl'
    obtain ⟨h1, h2⟩ := hl b (List.mem_append_right _ List.mem_cons_self)
    have key : c ∈ (kr e1 e2 (l ++ [b])).1 ↔ (c ∈ (kr e1 e2 l).1 ∨ (c = b ∧ ¬ cn e1 e2 (fun k => k ∈ l) (e1 b) (e2 b))) := by
      rw [kr_snoc]
      unfold kst
      by_cases hh : (kr e1 e2 l).2 (e1 b) = (kr e1 e2 l).2 (e2 b)
      · rw [if_pos hh]
        have := (kk.1 _ _ h1 h2).mp hh
        exact ⟨Or.inl, fun h => h.elim id (fun g => absurd this g.2)⟩
      · rw [if_neg hh]
        have : ¬ cn e1 e2 (fun k => k ∈ l) (e1 b) (e2 b) := fun g => hh ((kk.1 _ _ h1 h2).mpr g)
        show c ∈ (kr e1 e2 l).1 ++ [b] ↔ _
        rw [List.mem_append, List.mem_singleton]
        exact ⟨fun h => h.imp id (fun e => ⟨e, this⟩), fun h => h.imp id (fun e => e.1)⟩
    rw [key, ih]
    constructor
    · rintro (⟨l1, l2, e, g⟩ | ⟨e, g⟩)
      · exact ⟨l1, l2 ++ [b], by rw [e]; simp, g⟩
      · subst e; exact ⟨l, [], rfl, g⟩
    · rintro ⟨l1, l2, e, g⟩
      rcases List.eq_nil_or_concat l2 with h | ⟨l3, z, h⟩
      · subst h
        have e' := List.append_inj' e rfl
        obtain ⟨ea, eb⟩ := e'
        cases eb
        subst ea
        exact Or.inr ⟨rfl, g⟩
      · rw [h, List.concat_eq_append] at e
        have e9 : l ++ [b] = (l1 ++ c :: l3) ++ [z] := by rw [e]; simp
        have e' := List.append_inj' e9 rfl
        exact Or.inl ⟨l1, l3, e'.1, g⟩
/-- THE NET of the cables among a set, over an ordered row of all -/
def net (e1 e2 : Nat → Nat) (am : Nat → Bool) (l : List Nat) : List Nat := (kr e1 e2 (l.filter am)).1
theorem net_mem {pr : Nat → Nat} {N : Nat} {l : List Nat} (hl : od pr N l) (hw : ∀ k, k < N → e1 k < S ∧ e2 k < S) (am : Nat → Bool) (c : Nat) :
    c ∈ net e1 e2 am l ↔ (c < N ∧ am c = true ∧ ¬ cn e1 e2 (fun k => k < N ∧ am k = true ∧ ch pr k c) (e1 c) (e2 c)) := by
  have hpw : (l.filter am).Pairwise (ch pr) := hl.1.filter am
  have hmem : ∀ k, k ∈ l.filter am ↔ (k < N ∧ am k = true) := fun k => by rw [List.mem_filter, hl.2]
  have hew : ew e1 e2 S (l.filter am) := fun k hk => hw k ((hmem k).mp hk).1
  have hnd : (l.filter am).Nodup := (od_nodup hl).filter am
  unfold net
  rw [kr_mem _ hew hnd]
  constructor
  · rintro ⟨l1, l2, e, g⟩
    have hc : c ∈ l.filter am := by rw [e]; exact List.mem_append_right _ List.mem_cons_self
    refine ⟨((hmem c).mp hc).1, ((hmem c).mp hc).2, fun h => g ?_⟩
    refine cn_mono (fun k hk => ?_) h
    rw [e] at hpw
    exact (pw_ahead hpw k).mpr ⟨by rw [← e]; exact (hmem k).mpr ⟨hk.1, hk.2.1⟩, hk.2.2⟩
  · rintro ⟨h1, h2, g⟩
    obtain ⟨l1, l2, e⟩ := List.append_of_mem ((hmem c).mpr ⟨h1, h2⟩)
    refine ⟨l1, l2, e, fun h => g ?_⟩
    refine cn_mono (fun k hk => ?_) h
    rw [e] at hpw
    have := (pw_ahead hpw k).mp hk
    rw [← e] at this
    exact ⟨((hmem k).mp this.1).1, ((hmem k).mp this.1).2, this.2⟩
theorem net_span {pr : Nat → Nat} {N : Nat} {l : List Nat} (hl : od pr N l) (hw : ∀ k, k < N → e1 k < S ∧ e2 k < S) (am : Nat → Bool) (x y : Nat) : cn e1 e2 (fun c => c ∈ net e1 e2 am l) x y ↔ cn e1 e2 (fun k => k < N ∧ am k = true) x y := by
  have hmem : ∀ k, k ∈ l.filter am ↔ (k < N ∧ am k = true) := fun k => by rw [List.mem_filter, hl.2]
  unfold net
  rw [kr_span (S := S) (l.filter am) (fun k hk => hw k ((hmem k).mp hk).1)]
  exact cn_congr hmem
end NET
/-! how many pieces there are: the sites less what is taken -/
theorem cnt_flip {p q : Nat → Bool} {a : Nat} : ∀ {n : Nat}, a < n → p a = true → q a = false → (∀ k, k ≠ a → q k = p k) → fa_cnt p n = fa_cnt q n + 1 := by
  intro n
  induction n with
  | zero => intro h; omega
  | succ n ih =>
    intro h hp hq ho
    by_cases e : a = n
    · subst e
      rw [fa_cnt_yes hp, fa_cnt_no hq, fa_cnt_cong (fun k hk => (ho k (by omega)).symm)]
    · have e1 := ih (by omega) hp hq ho
      have e2 : q n = p n := ho n (fun h => e h.symm)
      cases hpn : p n with
      | true => rw [fa_cnt_yes hpn, fa_cnt_yes (by rw [e2]; exact hpn), e1]
      | false => rw [fa_cnt_no hpn, fa_cnt_no (by rw [e2]; exact hpn), e1]
theorem cnt_all {p : Nat → Bool} : ∀ {n : Nat}, (∀ k, k < n → p k = true) → fa_cnt p n = n := by
  intro n
  induction n with
  | zero => intro _; rfl
  | succ n ih => intro h; rw [fa_cnt_yes (h n (by omega)), ih (fun k hk => h k (by omega))]
theorem cnt_one {p : Nat → Bool} : ∀ {n : Nat}, fa_cnt p n = 1 → ∀ a b, a < n → b < n → p a = true → p b = true → a = b := by
  intro n
  induction n with
  | zero => intro h; cases h
  | succ n ih =>
    intro h a b ha hb pa pb
    have zero : ∀ {m}, fa_cnt p m = 0 → ∀ k, k < m → p k = false := by
      intro m
      induction m with
      | zero => intro _ k hk; omega
      | succ m ih2 =>
        intro h k hk
        cases hp : p m with
        | true => rw [fa_cnt_yes hp] at h; cases h
        | false =>
          rw [fa_cnt_no hp] at h
          by_cases e : k = m
          · subst e; exact hp
          · exact ih2 h k (by omega)
    cases hp : p n with
    | true =>
      rw [fa_cnt_yes hp] at h
      have z := zero (m := n) (by omega)
      have ea : a = n := by
        by_cases e : a = n
        · exact e
        · rw [z a (by omega)] at pa; cases pa
      have eb : b = n := by
        by_cases e : b = n
        · exact e
        · rw [z b (by omega)] at pb; cases pb
      omega
    | false =>
      rw [fa_cnt_no hp] at h
      have ea : a ≠ n := fun e => by subst e; rw [hp] at pa; cases pa
      have eb : b ≠ n := fun e => by subst e; rw [hp] at pb; cases pb
      exact ih h a b (by omega) (by omega) pa pb
theorem kr_cnt {e1 e2 : Nat → Nat} {S : Nat} : ∀ (l : List Nat), ew e1 e2 S l → fa_cnt (fun x => decide ((kr e1 e2 l).2 x = x)) S + (kr e1 e2 l).1.length = S := by
  intro l
  induction l using sn_ind with
  | nil => intro _; rw [kr_nil, cnt_all (fun k _ => by simp)]; rfl
  | append_singleton l c ih =>
    intro hl
    have hl' : ew e1 e2 S l := fun k hk => hl k (List.mem_append_left _ hk)
    have ih := ih hl'
    obtain ⟨p1, p2, p3, p4⟩ := kr_kp l hl'
    obtain ⟨h1, h2⟩ := hl c (List.mem_append_right _ List.mem_cons_self)
    rw [kr_snoc]
    unfold kst
    by_cases hh : (kr e1 e2 l).2 (e1 c) = (kr e1 e2 l).2 (e2 c)
    · rw [if_pos hh]; exact ih
    · rw [if_neg hh]
      generalize hu : (kr e1 e2 l).2 (e1 c) = u at hh
      generalize hv : (kr e1 e2 l).2 (e2 c) = v at hh
      have hu1 : (kr e1 e2 l).2 u = u := by rw [← hu]; exact p3 _
      have hv1 : (kr e1 e2 l).2 v = v := by rw [← hv]; exact p3 _
      have hu2 : u < S := by rw [← hu]; exact Nat.lt_of_le_of_lt (p2 _) h1
      have hv2 : v < S := by rw [← hv]; exact Nat.lt_of_le_of_lt (p2 _) h2
      have hmx : (kr e1 e2 l).2 (max u v) = max u v := by
        rcases Nat.le_total u v with h | h
        · rw [Nat.max_eq_right h]; exact hv1
        · rw [Nat.max_eq_left h]; exact hu1
      have key := cnt_flip (p := fun x => decide ((kr e1 e2 l).2 x = x)) (q := fun x => decide (mg (kr e1 e2 l).2 u v x = x)) (a := max u v) (n := S) (by omega) (by simp [hmx]) (by
        unfold mg
        rw [hmx, if_pos rfl]
        simp
        omega) (fun k hk => by
        unfold mg
        by_cases e : (kr e1 e2 l).2 k = max u v
        · rw [if_pos e, e]
          have a1 : ¬ max u v = k := fun h => hk h.symm
          have a2 : ¬ min u v = k := by
            intro h
            have hmn : (kr e1 e2 l).2 (min u v) = min u v := by
              rcases Nat.le_total u v with h | h
              · rw [Nat.min_eq_left h]; exact hu1
              · rw [Nat.min_eq_right h]; exact hv1
            rw [← h, hmn] at e
            omega
          simp [a1, a2]
        · rw [if_neg e])
      show fa_cnt (fun x => decide (mg (kr e1 e2 l).2 u v x = x)) S + ((kr e1 e2 l).1 ++ [c]).length = S
      rw [List.length_append]
      simp only [List.length_singleton]
      omega
