/-- induction from the right -/
theorem sn_ind {motive : List Nat → Prop} (nil : motive []) (append_singleton : ∀ l c, motive l → motive (l ++ [c])) (l : List Nat) : motive l := by
  rw [← List.reverse_reverse l]
  induction l.reverse with
  | nil => exact nil
  | cons c t ih => rw [List.reverse_cons]; exact append_singleton _ _ ih
/-! GRAPHS: what edges join; the net that is taken, the cheapest first. e1, e2: the ends of an edge; a set of edges is a predicate -/
def cn (e1 e2 : Nat → Nat) (E : Nat → Prop) (x y : Nat) : Prop := ∀ P : Nat → Prop, (∀ c, E c → (P (e1 c) ↔ P (e2 c))) → P x → P y
section GRA
variable {e1 e2 : Nat → Nat} {E F : Nat → Prop} {x y z c : Nat}
theorem cn_refl : cn e1 e2 E x x := fun _ _ h => h
theorem cn_trans (h : cn e1 e2 E x y) (g : cn e1 e2 E y z) : cn e1 e2 E x z := fun P hP hx => g P hP (h P hP hx)
theorem cn_symm (h : cn e1 e2 E x y) : cn e1 e2 E y x := fun P hP hy => by
  have := h (fun z => P z → P x) (fun c hc => by rw [hP c hc]) (fun h => h)
  exact this hy
theorem cn_edge (h : E c) : cn e1 e2 E (e1 c) (e2 c) := fun P hP hx => (hP c h).mp hx
theorem cn_mono (hE : ∀ c, E c → F c) (h : cn e1 e2 E x y) : cn e1 e2 F x y := fun P hP hx => h P (fun c hc => hP c (hE c hc)) hx
theorem cn_congr (hE : ∀ c, E c ↔ F c) : cn e1 e2 E x y ↔ cn e1 e2 F x y := ⟨cn_mono fun c h => (hE c).mp h, cn_mono fun c h => (hE c).mpr h⟩
/-- one edge more -/
theorem cn_add : cn e1 e2 (fun k => E k ∨ k = c) x y ↔ cn e1 e2 E x y ∨ (cn e1 e2 E x (e1 c) ∧ cn e1 e2 E (e2 c) y) ∨ (cn e1 e2 E x (e2 c) ∧ cn e1 e2 E (e1 c) y) := by
  constructor
  · intro h
    refine h (fun z => cn e1 e2 E x z ∨ (cn e1 e2 E x (e1 c) ∧ cn e1 e2 E (e2 c) z) ∨ (cn e1 e2 E x (e2 c) ∧ cn e1 e2 E (e1 c) z)) ?_ (Or.inl cn_refl)
    intro k hk
    rcases hk with hk | hk
    · have he := cn_edge (e1 := e1) (e2 := e2) hk
      constructor
      · rintro (h | ⟨h, g⟩ | ⟨h, g⟩)
        · exact Or.inl (cn_trans h he)
        · exact Or.inr (Or.inl ⟨h, cn_trans g he⟩)
        · exact Or.inr (Or.inr ⟨h, cn_trans g he⟩)
      · rintro (h | ⟨h, g⟩ | ⟨h, g⟩)
        · exact Or.inl (cn_trans h (cn_symm he))
        · exact Or.inr (Or.inl ⟨h, cn_trans g (cn_symm he)⟩)
        · exact Or.inr (Or.inr ⟨h, cn_trans g (cn_symm he)⟩)
    · subst hk
      constructor
      · rintro (h | ⟨h, g⟩ | ⟨h, g⟩)
        · exact Or.inr (Or.inl ⟨h, cn_refl⟩)
        · exact Or.inr (Or.inl ⟨h, cn_refl⟩)
        · exact Or.inl h
      · rintro (h | ⟨h, g⟩ | ⟨h, g⟩)
        · exact Or.inr (Or.inr ⟨h, cn_refl⟩)
        · exact Or.inl h
        · exact Or.inr (Or.inr ⟨h, cn_refl⟩)
  · have hm : ∀ {u v}, cn e1 e2 E u v → cn e1 e2 (fun k => E k ∨ k = c) u v := fun h => cn_mono (fun _ h => Or.inl h) h
    have he : cn e1 e2 (fun k => E k ∨ k = c) (e1 c) (e2 c) := cn_edge (Or.inr rfl)
    rintro (h | ⟨h, g⟩ | ⟨h, g⟩)
    · exact hm h
    · exact cn_trans (cn_trans (hm h) he) (hm g)
    · exact cn_trans (cn_trans (hm h) (cn_symm he)) (hm g)
/-- an edge whose ends are joined already adds nothing -/
theorem cn_add_red (hc : cn e1 e2 E (e1 c) (e2 c)) : cn e1 e2 (fun k => E k ∨ k = c) x y ↔ cn e1 e2 E x y := by
  rw [cn_add]
  constructor
  · rintro (h | ⟨h, g⟩ | ⟨h, g⟩)
    · exact h
    · exact cn_trans (cn_trans h hc) g
    · exact cn_trans (cn_trans h (cn_symm hc)) g
  · exact Or.inl
/-- what is joined by a set all of whose edges another set joins -/
theorem cn_of_all (h : ∀ c, E c → cn e1 e2 F (e1 c) (e2 c)) (g : cn e1 e2 E x y) : cn e1 e2 F x y := by
  refine g (fun z => cn e1 e2 F x z) (fun c hc => ⟨fun a => cn_trans a (h c hc), fun a => cn_trans a (cn_symm (h c hc))⟩) cn_refl
theorem cn_none (h : ∀ c, ¬ E c) : cn e1 e2 E x y ↔ x = y := by
  constructor
  · intro g
    exact g (fun z => x = z) (fun c hc => absurd hc (h c)) rfl
  · intro e; subst e; exact cn_refl
/-- nothing outside the sites is joined to one inside -/
theorem cn_lt {S : Nat} (hE : ∀ c, E c → e1 c < S ∧ e2 c < S) (h : cn e1 e2 E x y) : x = y ∨ (x < S ∧ y < S) := by
  refine h (fun z => x = z ∨ (x < S ∧ z < S)) ?_ (Or.inl rfl)
  intro c hc
  obtain ⟨h1, h2⟩ := hE c hc
  constructor
  · rintro (a | a)
    · exact Or.inr ⟨by omega, h2⟩
    · exact Or.inr ⟨a.1, h2⟩
  · rintro (a | a)
    · exact Or.inr ⟨by omega, h1⟩
    · exact Or.inr ⟨a.1, h1⟩
end GRA
/-- two pieces become one, told by the lesser -/
def mg (pc : Nat → Nat) (u v : Nat) : Nat → Nat := fun x => if pc x = max u v then min u v else pc x
/-- one edge looked at: (what is taken, the pieces) -/
def kst (e1 e2 : Nat → Nat) (s : List Nat × (Nat → Nat)) (c : Nat) : List Nat × (Nat → Nat) :=
  if s.2 (e1 c) = s.2 (e2 c) then s else (s.1 ++ [c], mg s.2 (s.2 (e1 c)) (s.2 (e2 c)))
/-- the edges of a row looked at, one behind the other -/
def kr (e1 e2 : Nat → Nat) (l : List Nat) : List Nat × (Nat → Nat) := l.foldl (kst e1 e2) ([], id)
theorem kr_nil (e1 e2 : Nat → Nat) : kr e1 e2 [] = ([], id) := rfl
theorem kr_snoc (e1 e2 : Nat → Nat) (l : List Nat) (c : Nat) : kr e1 e2 (l ++ [c]) = kst e1 e2 (kr e1 e2 l) c := by
  unfold kr; rw [List.foldl_append]; rfl
/-- the pieces are those of the edges so far, each told by its least site -/
def kp (e1 e2 : Nat → Nat) (S : Nat) (pc : Nat → Nat) (E : Nat → Prop) : Prop := (∀ x y, x < S → y < S → (pc x = pc y ↔ cn e1 e2 E x y)) ∧ (∀ x, pc x ≤ x) ∧ (∀ x, pc (pc x) = pc x) ∧ ∀ x, S ≤ x → pc x = x
section KRU
variable {e1 e2 : Nat → Nat} {S : Nat}
theorem kp_id (E : Nat → Prop) (hE : ∀ c, ¬ E c) : kp e1 e2 S id E := ⟨fun x y _ _ => (cn_none hE).symm, fun x => Nat.le_refl _, fun _ => rfl, fun _ _ => rfl⟩
theorem mg_eq {pc : Nat → Nat} {u v : Nat} (huv : u ≠ v) (hu : pc u = u) (hv : pc v = v) (x y : Nat) : mg pc u v x = mg pc u v y ↔ pc x = pc y ∨ (pc x = u ∧ pc y = v) ∨ (pc x = v ∧ pc y = u) := by
  unfold mg
  by_cases h1 : u ≤ v
  · rw [Nat.max_eq_right h1, Nat.min_eq_left h1]
    by_cases a : pc x = v
    · by_cases b : pc y = v
      · rw [if_pos a, if_pos b]; omega
      · rw [if_pos a, if_neg b]; omega
    · by_cases b : pc y = v
      · rw [if_neg a, if_pos b]; omega
      · rw [if_neg a, if_neg b]; omega
  · rw [Nat.max_eq_left (by omega), Nat.min_eq_right (by omega)]
    by_cases a : pc x = u
    · by_cases b : pc y = u
      · rw [if_pos a, if_pos b]; omega
      · rw [if_pos a, if_neg b]; omega
    · by_cases b : pc y = u
      · rw [if_neg a, if_pos b]; omega
      · rw [if_neg a, if_neg b]; omega
theorem kp_mg {pc : Nat → Nat} {E : Nat → Prop} {c : Nat} (h : kp e1 e2 S pc E) (h1 : e1 c < S) (h2 : e2 c < S) (hne : ¬ pc (e1 c) = pc (e2 c)) : kp e1 e2 S (mg pc (pc (e1 c)) (pc (e2 c))) (fun k => E k ∨ k = c) := by
  obtain ⟨p1, p2, p3, p4⟩ := h
  refine ⟨fun x y hx hy => ?_, fun x => ?_, fun x => ?_, fun x hx => ?_⟩
  · rw [mg_eq hne (p3 _) (p3 _), cn_add, ← p1 x y hx hy, ← p1 x (e1 c) hx h1, ← p1 (e2 c) y h2 hy, ← p1 x (e2 c) hx h2, ← p1 (e1 c) y h1 hy]
    constructor
    · rintro (a | ⟨a, b⟩ | ⟨a, b⟩)
      · exact Or.inl a
      · exact Or.inr (Or.inl ⟨a, b.symm⟩)
      · exact Or.inr (Or.inr ⟨a, b.symm⟩)
    · rintro (a | ⟨a, b⟩ | ⟨a, b⟩)
      · exact Or.inl a
      · exact Or.inr (Or.inl ⟨a, b.symm⟩)
      · exact Or.inr (Or.inr ⟨a, b.symm⟩)
  · unfold mg
    have := p2 x
    split <;> omega
  · have e : pc (min (pc (e1 c)) (pc (e2 c))) = min (pc (e1 c)) (pc (e2 c)) := by
      rcases Nat.le_total (pc (e1 c)) (pc (e2 c)) with h | h
      · rw [Nat.min_eq_left h]; exact p3 _
      · rw [Nat.min_eq_right h]; exact p3 _
    unfold mg
    by_cases a : pc x = max (pc (e1 c)) (pc (e2 c))
    · simp only [a, if_true]
      rw [e, if_neg (by omega)]
    · simp only [a, if_false]
      rw [p3, if_neg a]
  · have q1 : pc (e1 c) < S := Nat.lt_of_le_of_lt (p2 _) h1
    have q2 : pc (e2 c) < S := Nat.lt_of_le_of_lt (p2 _) h2
    unfold mg
    rw [p4 x hx, if_neg (by omega)]
/-- a row of edges within the sites -/
def ew (e1 e2 : Nat → Nat) (S : Nat) (l : List Nat) : Prop := ∀ c ∈ l, e1 c < S ∧ e2 c < S
theorem kr_kp : ∀ (l : List Nat), ew e1 e2 S l → kp e1 e2 S (kr e1 e2 l).2 (fun c => c ∈ l) := by
  intro l
  induction l using sn_ind with
  | nil => intro _; exact kp_id _ (fun c h => by cases h)
  | append_singleton l c ih =>
    intro hl
    have ih := ih (fun k hk => hl k (List.mem_append_left _ hk))
    obtain ⟨h1, h2⟩ := hl c (List.mem_append_right _ List.mem_cons_self)
    have hmem : ∀ k, k ∈ l ++ [c] ↔ (k ∈ l ∨ k = c) := fun k => by rw [List.mem_append, List.mem_singleton]
    rw [kr_snoc]
    unfold kst
    by_cases hh : (kr e1 e2 l).2 (e1 c) = (kr e1 e2 l).2 (e2 c)
    · rw [if_pos hh]
      refine ⟨fun x y hx hy => ?_, ih.2⟩
      rw [ih.1 x y hx hy, cn_congr hmem, cn_add_red ((ih.1 _ _ h1 h2).mp hh)]
    · rw [if_neg hh]
      obtain ⟨p1, p2⟩ := kp_mg ih h1 h2 hh
      refine ⟨fun x y hx hy => ?_, p2⟩
      rw [cn_congr hmem]
      exact p1 x y hx hy
/-- what is taken joins just what all the edges join -/
theorem kr_span : ∀ (l : List Nat), ew e1 e2 S l → ∀ x y, cn e1 e2 (fun c => c ∈ (kr e1 e2 l).1) x y ↔ cn e1 e2 (fun c => c ∈ l) x y := by
  intro l
  induction l using sn_ind with
  | nil => intro _ x y; exact Iff.rfl
  | append_singleton l c ih =>
    intro hl x y
    have hl' : ew e1 e2 S l := fun k hk => hl k (List.mem_append_left _ hk)
    have ih := ih hl'
    have kk := kr_kp l hl'
    obtain ⟨h1, h2⟩ := hl c (List.mem_append_right _ List.mem_cons_self)
    have hmem : ∀ k, k ∈ l ++ [c] ↔ (k ∈ l ∨ k = c) := fun k => by rw [List.mem_append, List.mem_singleton]
    rw [kr_snoc, cn_congr hmem]
    unfold kst
    by_cases hh : (kr e1 e2 l).2 (e1 c) = (kr e1 e2 l).2 (e2 c)
    · rw [if_pos hh, ih, cn_add_red ((kk.1 _ _ h1 h2).mp hh)]
    · rw [if_neg hh]
      have hmem2 : ∀ k, k ∈ (kr e1 e2 l).1 ++ [c] ↔ (k ∈ (kr e1 e2 l).1 ∨ k = c) := fun k => by rw [List.mem_append, List.mem_singleton]
      show cn e1 e2 (fun k => k ∈ (kr e1 e2 l).1 ++ [c]) x y ↔ _
      rw [cn_congr hmem2, cn_add, cn_add, ih, ih, ih, ih, ih]
theorem kr_sub : ∀ (l : List Nat), ∀ c ∈ (kr e1 e2 l).1, c ∈ l := by
  intro l
  induction l using sn_ind with
  | nil => intro c h; exact h
  | append_singleton l c ih =>
    intro k hk
    rw [kr_snoc] at hk
    unfold kst at hk
    split at hk
    · exact List.mem_append_left _ (ih k hk)
    · rcases List.mem_append.mp hk with h | h
      · exact List.mem_append_left _ (ih k h)
      · exact List.mem_append_right _ h
end KRU
