/-! JOINED: trees over sets of sites -/
def cE1 (k : Nat) : Nat := k / 10
def cE2 (k : Nat) : Nat := k % 10
theorem cE_1 {u v : Nat} (hv : v < 10) : cE1 (10 * u + v) = u := by unfold cE1; omega
theorem cE_2 {u v : Nat} (hv : v < 10) : cE2 (10 * u + v) = v := by unfold cE2; omega
/-- a row of legs joins a set of sites -/
def spF (V : Nat → Prop) (F : List Nat) : Prop := (∀ k ∈ F, V (cE1 k) ∧ V (cE2 k)) ∧ ∀ x y, V x → V y → cn cE1 cE2 (fun k => k ∈ F) x y
def wtF (ds : Nat → Nat → Nat) (F : List Nat) : Nat := (F.map fun k => ds (cE1 k) (cE2 k)).sum
theorem wtF_app (ds : Nat → Nat → Nat) (F G : List Nat) : wtF ds (F ++ G) = wtF ds F + wtF ds G := by unfold wtF; rw [List.map_append, List.sum_append]
theorem wtF_one (ds : Nat → Nat → Nat) {u v : Nat} (hv : v < 10) : wtF ds [10 * u + v] = ds u v := by unfold wtF; simp [cE_1 hv, cE_2 hv]
theorem spF_leg {V : Nat → Prop} {F : List Nat} {t s : Nat} (h : spF V F) (ht : V t) (hs : s < 10) : spF (fun x => V x ∨ x = s) (F ++ [10 * t + s]) := by
  have up : ∀ {x y}, cn cE1 cE2 (fun k => k ∈ F) x y → cn cE1 cE2 (fun k => k ∈ F ++ [10 * t + s]) x y := fun h => cn_mono (fun k hk => List.mem_append_left _ hk) h
  have he : cn cE1 cE2 (fun k => k ∈ F ++ [10 * t + s]) t s := by
    have := cn_edge (e1 := cE1) (e2 := cE2) (E := fun k => k ∈ F ++ [10 * t + s]) (c := 10 * t + s) (List.mem_append_right _ List.mem_cons_self)
    rwa [cE_1 hs, cE_2 hs] at this
  refine ⟨fun k hk => ?_, fun x y hx hy => ?_⟩
  · rcases List.mem_append.mp hk with hk | hk
    · exact ⟨Or.inl (h.1 k hk).1, Or.inl (h.1 k hk).2⟩
    · rw [List.mem_singleton.mp hk, cE_1 hs, cE_2 hs]; exact ⟨Or.inl ht, Or.inr rfl⟩
  · rcases hx with hx | hx <;> rcases hy with hy | hy
    · exact up (h.2 x y hx hy)
    · rw [hy]; exact cn_trans (up (h.2 x t hx ht)) he
    · rw [hx]; exact cn_trans (cn_symm he) (up (h.2 t y ht hy))
    · rw [hx, hy]; exact cn_refl
theorem spF_two {V W : Nat → Prop} {F G : List Nat} {s : Nat} (h : spF V F) (g : spF W G) (hV : V s) (hW : W s) : spF (fun x => V x ∨ W x) (F ++ G) := by
  have u1 : ∀ {x y}, cn cE1 cE2 (fun k => k ∈ F) x y → cn cE1 cE2 (fun k => k ∈ F ++ G) x y := fun h => cn_mono (fun k hk => List.mem_append_left _ hk) h
  have u2 : ∀ {x y}, cn cE1 cE2 (fun k => k ∈ G) x y → cn cE1 cE2 (fun k => k ∈ F ++ G) x y := fun h => cn_mono (fun k hk => List.mem_append_right _ hk) h
  have toS : ∀ x, (V x ∨ W x) → cn cE1 cE2 (fun k => k ∈ F ++ G) x s := fun x hx => by
    rcases hx with hx | hx
    · exact u1 (h.2 x s hx hV)
    · exact u2 (g.2 x s hx hW)
  refine ⟨fun k hk => ?_, fun x y hx hy => cn_trans (toS x hx) (cn_symm (toS y hy))⟩
  rcases List.mem_append.mp hk with hk | hk
  · exact ⟨Or.inl (h.1 k hk).1, Or.inl (h.1 k hk).2⟩
  · exact ⟨Or.inr (g.1 k hk).1, Or.inr (g.1 k hk).2⟩
theorem spF_congr {V W : Nat → Prop} {F : List Nat} (h : ∀ x, V x ↔ W x) (g : spF V F) : spF W F := ⟨fun k hk => ⟨(h _).mp (g.1 k hk).1, (h _).mp (g.1 k hk).2⟩, fun x y hx hy => g.2 x y ((h x).mpr hx) ((h y).mpr hy)⟩
theorem cnt_or_le (p q : Nat → Bool) : ∀ n, fa_cnt (fun x => p x || q x) n ≤ fa_cnt p n + fa_cnt q n := by
  intro n
  induction n with
  | zero => exact Nat.le_refl _
  | succ n ih =>
    cases hp : p n <;> cases hq : q n
    · rw [fa_cnt_no (p := fun x => p x || q x) (by simp [hp, hq]), fa_cnt_no hp, fa_cnt_no hq]; exact ih
    · rw [fa_cnt_yes (p := fun x => p x || q x) (by simp [hq]), fa_cnt_no hp, fa_cnt_yes hq]; omega
    · rw [fa_cnt_yes (p := fun x => p x || q x) (by simp [hp]), fa_cnt_yes hp, fa_cnt_no hq]; omega
    · rw [fa_cnt_yes (p := fun x => p x || q x) (by simp [hp]), fa_cnt_yes hp, fa_cnt_yes hq]; omega
theorem cnt_or_eq {p q : Nat → Bool} (h : ∀ x, ¬ (p x = true ∧ q x = true)) : ∀ n, fa_cnt (fun x => p x || q x) n = fa_cnt p n + fa_cnt q n := by
  intro n
  induction n with
  | zero => rfl
  | succ n ih =>
    cases hp : p n <;> cases hq : q n
    · rw [fa_cnt_no (p := fun x => p x || q x) (by simp [hp, hq]), fa_cnt_no hp, fa_cnt_no hq]; exact ih
    · rw [fa_cnt_yes (p := fun x => p x || q x) (by simp [hq]), fa_cnt_no hp, fa_cnt_yes hq]; omega
    · rw [fa_cnt_yes (p := fun x => p x || q x) (by simp [hp]), fa_cnt_yes hp, fa_cnt_no hq]; omega
    · exact absurd ⟨hp, hq⟩ (h n)
theorem cnt_single (s : Nat) : ∀ n, fa_cnt (fun x => decide (x = s)) n ≤ 1 := by
  intro n
  induction n with
  | zero => exact Nat.zero_le _
  | succ n ih =>
    by_cases e : n = s
    · have : ∀ m, m ≤ n → fa_cnt (fun x => decide (x = s)) m = 0 := by
        intro m
        induction m with
        | zero => intro _; rfl
        | succ m ih2 => intro hm; rw [fa_cnt_no (p := fun x => decide (x = s)) (by simp; omega)]; exact ih2 (by omega)
      rw [fa_cnt_yes (p := fun x => decide (x = s)) (by simp [e]), this n (Nat.le_refl _)]; omega
    · rw [fa_cnt_no (p := fun x => decide (x = s)) (by simp [e])]; exact ih
/-- trees as the model's table has them -/
def Tr (e1 e2 pr : Nat → Nat) (E : Nat → Prop) (S A s c : Nat) : Prop := ∀ P : Nat → Nat → Nat → Prop, (∀ x, x < S → P (2 ^ x) x 0) → (∀ A t c k s, P A t c → E k → ed e1 e2 k t s → P A s (c + pr k)) → (∀ B C s c d, P B s c → P C s d → B &&& C = 0 → P (B ||| C) s (c + d)) → P A s c
section STE
variable {e1 e2 pr : Nat → Nat} {E : Nat → Prop} {S : Nat}
theorem Tr_1 {x : Nat} (h : x < S) : Tr e1 e2 pr E S (2 ^ x) x 0 := fun P h1 _ _ => h1 x h
theorem Tr_2 {A t c k s : Nat} (h : Tr e1 e2 pr E S A t c) (hk : E k) (he : ed e1 e2 k t s) : Tr e1 e2 pr E S A s (c + pr k) := fun P h1 h2 h3 => h2 A t c k s (h P h1 h2 h3) hk he
theorem Tr_3 {B C s c d : Nat} (h : Tr e1 e2 pr E S B s c) (g : Tr e1 e2 pr E S C s d) (hd : B &&& C = 0) : Tr e1 e2 pr E S (B ||| C) s (c + d) := fun P h1 h2 h3 => h3 B C s c d (h P h1 h2 h3) (g P h1 h2 h3) hd
/-- a tree over a set and few further sites, and a leg -/
def stP (ds : Nat → Nat → Nat) (S A s c : Nat) : Prop := s < S ∧ ∃ (Y : Nat → Bool) (t : Nat) (F : List Nat), (∀ x, Y x = true → x < S) ∧ fa_cnt Y 10 + 1 ≤ fa_cnt (fun x => A.testBit x) 10 ∧ (A.testBit t = true ∨ Y t = true) ∧ spF (fun x => A.testBit x = true ∨ Y x = true) F ∧ wtF ds F + ds t s ≤ c ∧ ∀ x, A.testBit x = true → x < S
def stF (ds : Nat → Nat → Nat) (S A c : Nat) : Prop := ∃ (Y : Nat → Bool) (F : List Nat), (∀ x, Y x = true → x < S) ∧ fa_cnt Y 10 + 2 ≤ fa_cnt (fun x => A.testBit x) 10 ∧ spF (fun x => A.testBit x = true ∨ Y x = true) F ∧ wtF ds F ≤ c
theorem tb_disj {B C x : Nat} (h : B &&& C = 0) : ¬ (B.testBit x = true ∧ C.testBit x = true) := fun g => by
  have := Nat.testBit_and B C x
  rw [h, Nat.zero_testBit, g.1, g.2] at this
  cases this
theorem cnt_tb {B C : Nat} (h : B &&& C = 0) (n : Nat) : fa_cnt (fun x => (B ||| C).testBit x) n = fa_cnt (fun x => B.testBit x) n + fa_cnt (fun x => C.testBit x) n := by
  rw [← cnt_or_eq (fun x => tb_disj h) n]
  exact fa_cnt_cong (fun k _ => Nat.testBit_or B C k)
theorem stP_3 {ds : Nat → Nat → Nat} (hS : S ≤ 10) {B C s c d : Nat} (h : stP ds S B s c) (g : stP ds S C s d) (hd : B &&& C = 0) (h0 : ∀ x, ds x x = 0) : stP ds S (B ||| C) s (c + d) := by
  obtain ⟨hs, Y, t, F, y1, y2, y3, y4, y5, y6⟩ := h
  obtain ⟨-, Z, u, G, z1, z2, z3, z4, z5, z6⟩ := g
  have a1 := spF_leg y4 y3 (s := s) (by omega)
  have a2 := spF_leg z4 z3 (s := s) (by omega)
  have a3 := spF_two a1 a2 (s := s) (Or.inr rfl) (Or.inr rfl)
  refine ⟨hs, fun x => (Y x || Z x) || decide (x = s), s, (F ++ [10 * t + s]) ++ (G ++ [10 * u + s]), fun x hx => ?_, ?_, Or.inr (by simp), spF_congr (fun x => ?_) a3, ?_, fun x hx => ?_⟩
  · simp only [Bool.or_eq_true, decide_eq_true_iff] at hx
    rcases hx with (hx | hx) | hx
    · exact y1 x hx
    · exact z1 x hx
    · rw [hx]; exact hs
  · rw [cnt_tb hd]
    have c1 := cnt_or_le (fun x => Y x || Z x) (fun x => decide (x = s)) 10
    have c2 := cnt_or_le Y Z 10
    have c3 := cnt_single s 10
    omega
  · rw [Nat.testBit_or]
    simp only [Bool.or_eq_true, decide_eq_true_iff]
    constructor
    · rintro ((h | h) | h)
      · rcases h with h | h
        · exact Or.inl (Or.inl h)
        · exact Or.inr (Or.inl (Or.inl h))
      · exact Or.inr (Or.inr h)
      · rcases h with (h | h) | h
        · exact Or.inl (Or.inr h)
        · exact Or.inr (Or.inl (Or.inr h))
        · exact Or.inr (Or.inr h)
    · rintro ((h | h) | ((h | h) | h))
      · exact Or.inl (Or.inl (Or.inl h))
      · exact Or.inr (Or.inl (Or.inl h))
      · exact Or.inl (Or.inl (Or.inr h))
      · exact Or.inr (Or.inl (Or.inr h))
      · exact Or.inl (Or.inr h)
  · rw [wtF_app, wtF_app, wtF_app, wtF_one ds (by omega), wtF_one ds (by omega), h0]; omega
  · rw [Nat.testBit_or, Bool.or_eq_true] at hx
    exact hx.elim (y6 x) (z6 x)
theorem cnt_pow {x : Nat} (hx : x < 10) : fa_cnt (fun y => (2 ^ x).testBit y) 10 = 1 := by
  have : ∀ x, x < 10 → fa_cnt (fun y => (2 ^ x).testBit y) 10 = 1 := by decide
  exact this x hx
theorem tb_pow {x y : Nat} : (2 ^ x).testBit y = true ↔ y = x := by
  rw [Nat.testBit_two_pow, decide_eq_true_iff]; exact ⟨fun h => h.symm, fun h => h.symm⟩
/-- what the model's trees give the class -/
theorem Tr_st {ds : Nat → Nat → Nat} (hS : S ≤ 10) (h0 : ∀ x, ds x x = 0) (hk : ∀ k x y t, E k → ed e1 e2 k x y → ds t y ≤ ds t x + pr k) (hE : ∀ k x y, E k → ed e1 e2 k x y → y < S) {A s c : Nat} (h : Tr e1 e2 pr E S A s c) : stP ds S A s c ∧ (∀ C d, stP ds S C s d → A &&& C = 0 → stF ds S (A ||| C) (c + d)) ∧ (2 ≤ fa_cnt (fun x => A.testBit x) 10 → stF ds S A c) := by
  have leg : ∀ {A t c k s}, stP ds S A t c → E k → ed e1 e2 k t s → stP ds S A s (c + pr k) := by
    rintro A t c k s ⟨-, Y, u, F, y1, y2, y3, y4, y5, y6⟩ hk' he
    exact ⟨hE k t s hk' he, Y, u, F, y1, y2, y3, y4, by have := hk k t s u hk' he; omega, y6⟩
  refine h (fun A s c => stP ds S A s c ∧ (∀ C d, stP ds S C s d → A &&& C = 0 → stF ds S (A ||| C) (c + d)) ∧ (2 ≤ fa_cnt (fun x => A.testBit x) 10 → stF ds S A c)) ?_ ?_ ?_
  · intro x hx
    refine ⟨⟨hx, fun _ => false, x, [], fun _ h => (by cases h), ?_, Or.inl (tb_pow.mpr rfl), ⟨fun k hk => (by cases hk), fun a b ha hb => ?_⟩, ?_, fun y hy => by rw [tb_pow.mp hy]; exact hx⟩, ?_, ?_⟩
    · rw [cnt_pow (by omega)]; decide
    · have ea : a = x := by rcases ha with ha | ha; exact tb_pow.mp ha; cases ha
      have eb : b = x := by rcases hb with hb | hb; exact tb_pow.mp hb; cases hb
      rw [ea, eb]; exact cn_refl
    · show 0 + ds x x ≤ 0
      rw [h0]; exact Nat.le_refl _
    · rintro C d ⟨-, Y, t, F, y1, y2, y3, y4, y5, y6⟩ hd
      refine ⟨Y, F ++ [10 * t + x], y1, ?_, spF_congr (fun y => ?_) (spF_leg y4 y3 (s := x) (by omega)), ?_⟩
      · rw [cnt_tb hd, cnt_pow (by omega)]; omega
      · rw [Nat.testBit_or, Bool.or_eq_true, tb_pow]
        constructor
        · rintro ((h | h) | h)
          · exact Or.inl (Or.inr h)
          · exact Or.inr h
          · exact Or.inl (Or.inl h)
        · rintro ((h | h) | h)
          · exact Or.inr h
          · exact Or.inl (Or.inl h)
          · exact Or.inl (Or.inr h)
      · rw [wtF_app, wtF_one ds (by omega)]; omega
    · intro h
      rw [cnt_pow (by omega)] at h; omega
  · rintro A t c k s ⟨h1, h2, h3⟩ hk' he
    refine ⟨leg h1 hk' he, fun C d hC hd => ?_, fun hA => ?_⟩
    · have := h2 C (d + pr k) (leg hC hk' (ed_symm he)) hd
      rw [show c + pr k + d = c + (d + pr k) by omega]; exact this
    · obtain ⟨Y, F, y1, y2, y3, y4⟩ := h3 hA
      exact ⟨Y, F, y1, y2, y3, by omega⟩
  · rintro B C s c d ⟨b1, b2, b3⟩ ⟨c1, c2, c3⟩ hd
    refine ⟨stP_3 hS b1 c1 hd h0, fun D e hD hdd => ?_, fun _ => b2 C d c1 hd⟩
    have hBD : B &&& D = 0 := Nat.eq_of_testBit_eq fun i => by
      have := congrArg (fun n => n.testBit i) hdd
      simp only [Nat.testBit_and, Nat.testBit_or, Nat.zero_testBit] at this ⊢
      cases h1 : B.testBit i <;> cases h2 : D.testBit i <;> simp_all
    have hCD : C &&& D = 0 := Nat.eq_of_testBit_eq fun i => by
      have := congrArg (fun n => n.testBit i) hdd
      simp only [Nat.testBit_and, Nat.testBit_or, Nat.zero_testBit] at this ⊢
      cases h1 : C.testBit i <;> cases h2 : D.testBit i <;> simp_all
    have hB2 : B &&& (C ||| D) = 0 := by
      rw [Nat.and_or_distrib_left, hd, hBD]; rfl
    have := b2 (C ||| D) (d + e) (stP_3 hS c1 hD hCD h0) hB2
    rw [Nat.or_assoc, show c + d + e = c + (d + e) by omega]; exact this
end STE
