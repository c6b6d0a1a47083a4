/-! DISTANCES over sound cables -/
theorem cnt_lt {p q : Nat → Bool} {a : Nat} : ∀ {n : Nat}, (∀ k, k < n → p k = true → q k = true) → a < n → q a = true → p a = false → fa_cnt p n < fa_cnt q n := by
  have le : ∀ {n : Nat}, (∀ k, k < n → p k = true → q k = true) → fa_cnt p n ≤ fa_cnt q n := by
    intro n
    induction n with
    | zero => intro _; exact Nat.le_refl _
    | succ n ih =>
      intro h
      have := ih (fun k hk => h k (by omega))
      cases hp : p n with
      | true => rw [fa_cnt_yes hp, fa_cnt_yes (h n (by omega) hp)]; omega
      | false =>
        rw [fa_cnt_no hp]
        cases hq : q n with
        | true => rw [fa_cnt_yes hq]; omega
        | false => rw [fa_cnt_no hq]; exact this
  intro n
  induction n with
  | zero => intro _ h; omega
  | succ n ih =>
    intro h ha hq hp
    by_cases e : a = n
    · subst e
      have := le (n := a) (fun k hk => h k (by omega))
      rw [fa_cnt_no hp, fa_cnt_yes hq]; omega
    · have := ih (fun k hk => h k (by omega)) (by omega) hq hp
      cases hp : p n with
      | true => rw [fa_cnt_yes hp, fa_cnt_yes (h n (by omega) hp)]; omega
      | false =>
        rw [fa_cnt_no hp]
        cases hq : q n with
        | true => rw [fa_cnt_yes hq]; omega
        | false => rw [fa_cnt_no hq]; exact this
/-- a walk: its cables, one behind the other -/
def wk (e1 e2 : Nat → Nat) (E : Nat → Prop) : List Nat → Nat → Nat → Prop
  | [], x, y => x = y
  | k :: p, x, y => E k ∧ ∃ b, ed e1 e2 k x b ∧ wk e1 e2 E p b y
def rch (e1 e2 pr : Nat → Nat) (E : Nat → Prop) (x y c : Nat) : Prop := ∃ p, wk e1 e2 E p x y ∧ (p.map pr).sum = c
def dD (e1 e2 pr : Nat → Nat) (E : Nat → Prop) (x y v : Nat) : Prop := rch e1 e2 pr E x y v ∧ ∀ c, rch e1 e2 pr E x y c → v ≤ c
section DIS
variable {e1 e2 pr : Nat → Nat} {E : Nat → Prop}
theorem wk_app : ∀ {p q : List Nat} {x y z : Nat}, wk e1 e2 E p x y → wk e1 e2 E q y z → wk e1 e2 E (p ++ q) x z := by
  intro p
  induction p with
  | nil => intro q x y z h g; rw [h]; exact g
  | cons k p ih =>
    intro q x y z h g
    obtain ⟨h1, b, h2, h3⟩ := h
    exact ⟨h1, b, h2, ih h3 g⟩
theorem wk_rev : ∀ {p : List Nat} {x y : Nat}, wk e1 e2 E p x y → wk e1 e2 E p.reverse y x := by
  intro p
  induction p with
  | nil => intro x y h; exact h.symm
  | cons k p ih =>
    intro x y h
    obtain ⟨h1, b, h2, h3⟩ := h
    rw [List.reverse_cons]
    exact wk_app (ih h3) ⟨h1, x, ed_symm h2, rfl⟩
theorem rch_refl (x : Nat) : rch e1 e2 pr E x x 0 := ⟨[], rfl, rfl⟩
theorem rch_trans {x y z c d : Nat} (h : rch e1 e2 pr E x y c) (g : rch e1 e2 pr E y z d) : rch e1 e2 pr E x z (c + d) := by
  obtain ⟨p, h1, h2⟩ := h
  obtain ⟨q, g1, g2⟩ := g
  exact ⟨p ++ q, wk_app h1 g1, by rw [List.map_append, List.sum_append, h2, g2]⟩
theorem rch_symm {x y c : Nat} (h : rch e1 e2 pr E x y c) : rch e1 e2 pr E y x c := by
  obtain ⟨p, h1, h2⟩ := h
  exact ⟨p.reverse, wk_rev h1, by rw [List.map_reverse, List.sum_reverse_nat]; exact h2⟩
theorem rch_edge {k x y : Nat} (hk : E k) (h : ed e1 e2 k x y) : rch e1 e2 pr E x y (pr k) := ⟨[k], ⟨hk, y, h, rfl⟩, by simp⟩
theorem dD_uq {x y u v : Nat} (h : dD e1 e2 pr E x y u) (g : dD e1 e2 pr E x y v) : u = v := Nat.le_antisymm (h.2 v g.1) (g.2 u h.1)
theorem min_ex {P : Nat → Prop} : ∀ n, P n → ∃ m, P m ∧ ∀ k, P k → m ≤ k := by
  intro n
  induction n using Nat.strongRecOn with
  | ind n ih =>
    intro hn
    by_cases h : ∃ m, m < n ∧ P m
    · obtain ⟨m, h1, h2⟩ := h
      exact ih m h1 h2
    · exact ⟨n, hn, fun k hk => Classical.byContradiction fun g => h ⟨k, by omega, hk⟩⟩
theorem dD_ex {x y c : Nat} (h : rch e1 e2 pr E x y c) : ∃ v, dD e1 e2 pr E x y v := min_ex (P := fun c => rch e1 e2 pr E x y c) c h
theorem dD_self (x : Nat) : dD e1 e2 pr E x x 0 := ⟨rch_refl x, fun c _ => Nat.zero_le c⟩
theorem dD_symm {x y v : Nat} (h : dD e1 e2 pr E x y v) : dD e1 e2 pr E y x v := ⟨rch_symm h.1, fun c hc => h.2 c (rch_symm hc)⟩
/-- the last cable of a shortest walk -/
theorem dD_last {x y v : Nat} (h : dD e1 e2 pr E x y v) (hne : x ≠ y) : ∃ k z u, E k ∧ ed e1 e2 k z y ∧ dD e1 e2 pr E x z u ∧ v = u + pr k := by
  obtain ⟨⟨p, h1, h2⟩, h3⟩ := dD_symm h
  cases p with
  | nil => exact absurd h1.symm hne
  | cons k p =>
    obtain ⟨g1, z, g2, g3⟩ := h1
    rw [List.map_cons, List.sum_cons] at h2
    have hz : rch e1 e2 pr E z x (p.map pr).sum := ⟨p, g3, rfl⟩
    refine ⟨k, z, (p.map pr).sum, g1, ed_symm g2, ⟨rch_symm hz, fun c hc => ?_⟩, by omega⟩
    have := h3 (c + pr k) (rch_symm (rch_trans hc (rch_edge g1 (ed_symm g2))))
    omega
/-- how many are nearer -/
noncomputable def nrB (e1 e2 pr : Nat → Nat) (E : Nat → Prop) (x v z : Nat) : Bool := @decide (∃ u, u < v ∧ dD e1 e2 pr E x z u) (Classical.propDecidable _)
theorem nrB_iff {x v z : Nat} : nrB e1 e2 pr E x v z = true ↔ ∃ u, u < v ∧ dD e1 e2 pr E x z u := by
  unfold nrB; exact @decide_eq_true_iff _ (Classical.propDecidable _)
noncomputable def rkD (e1 e2 pr : Nat → Nat) (E : Nat → Prop) (S x v : Nat) : Nat := fa_cnt (nrB e1 e2 pr E x v) S
theorem rk_lt {S x z u v : Nat} (h : dD e1 e2 pr E x z u) (hz : z < S) (huv : u < v) : rkD e1 e2 pr E S x u < rkD e1 e2 pr E S x v := by
  refine cnt_lt (a := z) (fun k _ hk => ?_) hz (nrB_iff.mpr ⟨u, huv, h⟩) ?_
  · obtain ⟨w, h1, h2⟩ := nrB_iff.mp hk
    exact nrB_iff.mpr ⟨w, by omega, h2⟩
  · cases hh : nrB e1 e2 pr E x u z with
    | false => rfl
    | true =>
      obtain ⟨w, h1, h2⟩ := nrB_iff.mp hh
      have := dD_uq h h2
      omega
theorem rk_le {S x y v : Nat} (h : dD e1 e2 pr E x y v) (hy : y < S) : rkD e1 e2 pr E S x v + 1 ≤ S := by
  have := cnt_lt (p := nrB e1 e2 pr E x v) (q := fun _ => true) (a := y) (n := S) (fun _ _ _ => rfl) hy rfl (by
    cases hh : nrB e1 e2 pr E x v y with
    | false => rfl
    | true =>
      obtain ⟨w, h1, h2⟩ := nrB_iff.mp hh
      have := dD_uq h h2
      omega)
  have e : fa_cnt (fun _ => true) S = S := cnt_all (fun _ _ => rfl)
  unfold rkD
  omega
/-- the edges: within the sites, with prices -/
def ewp (e1 e2 pr : Nat → Nat) (E : Nat → Prop) (S : Nat) : Prop := ∀ k, E k → 1 ≤ pr k ∧ pr k ≤ 999 ∧ e1 k < S ∧ e2 k < S
theorem ed_lt {S k x y : Nat} (hw : ewp e1 e2 pr E S) (hk : E k) (h : ed e1 e2 k x y) : x < S ∧ y < S := by
  have := hw k hk
  unfold ed at h; omega
theorem dD_le {S x : Nat} (hw : ewp e1 e2 pr E S) : ∀ v y, y < S → dD e1 e2 pr E x y v → v ≤ 999 * rkD e1 e2 pr E S x v := by
  intro v
  induction v using Nat.strongRecOn with
  | ind v ih =>
    intro y hy h
    by_cases e : x = y
    · subst e
      have := dD_uq h (dD_self x)
      omega
    · obtain ⟨k, z, u, h1, h2, h3, h4⟩ := dD_last h e
      have hk := hw k h1
      have hz := (ed_lt hw h1 h2).1
      have := ih u (by omega) z hz h3
      have := rk_lt (S := S) h3 hz (show u < v by omega)
      omega
theorem dD_max {S x y v : Nat} (hw : ewp e1 e2 pr E S) (hS : S ≤ 10) (hy : y < S) (h : dD e1 e2 pr E x y v) : v ≤ 8991 := by
  have h1 := dD_le hw v y hy h
  have h2 := rk_le (S := S) h hy
  omega
/-- what an array of distances says at the end -/
def shv (e1 e2 pr : Nat → Nat) (E : Nat → Prop) (x y v : Nat) : Prop := dD e1 e2 pr E x y v ∨ ((∀ c, ¬ rch e1 e2 pr E x y c) ∧ v = 1000000)
theorem shv_uq {x y u v : Nat} (h : shv e1 e2 pr E x y u) (g : shv e1 e2 pr E x y v) : u = v := by
  rcases h with h | h <;> rcases g with g | g
  · exact dD_uq h g
  · exact absurd h.1 (g.1 u)
  · exact absurd g.1 (h.1 v)
  · rw [h.2, g.2]
theorem shv_symm {x y v : Nat} (h : shv e1 e2 pr E x y v) : shv e1 e2 pr E y x v := h.imp dD_symm fun h => ⟨fun c hc => h.1 c (rch_symm hc), h.2⟩
/-- a value that some walk has, or none -/
def vok (e1 e2 pr : Nat → Nat) (E : Nat → Prop) (x y v : Nat) : Prop := v ≤ 1000000 ∧ (v = 1000000 ∨ rch e1 e2 pr E x y v)
theorem shv_of {S x y v : Nat} (hw : ewp e1 e2 pr E S) (hS : S ≤ 10) (hy : y < S) (h : vok e1 e2 pr E x y v) (g : ∀ u, dD e1 e2 pr E x y u → v ≤ u) : shv e1 e2 pr E x y v := by
  by_cases hr : ∃ c, rch e1 e2 pr E x y c
  · obtain ⟨c, hc⟩ := hr
    obtain ⟨u, hu⟩ := dD_ex hc
    have h1 := g u hu
    have h2 := dD_max hw hS hy hu
    rcases h.2 with e | e
    · omega
    · have := hu.2 v e
      have : u = v := by omega
      subst this
      exact Or.inl hu
  · refine Or.inr ⟨fun c hc => hr ⟨c, hc⟩, ?_⟩
    rcases h.2 with e | e
    · exact e
    · exact absurd ⟨v, e⟩ hr
theorem vok_add {x y z c k : Nat} (h : vok e1 e2 pr E x y c) (hk : E k) (he : ed e1 e2 k y z) {v : Nat} (hv : vok e1 e2 pr E x z v) : vok e1 e2 pr E x z (min v (c + pr k)) := by
  by_cases g : v ≤ c + pr k
  · rw [Nat.min_eq_left g]; exact hv
  · rw [Nat.min_eq_right (by omega)]
    have := hv.1
    rcases h.2 with e | e
    · omega
    · exact ⟨by omega, Or.inr (rch_trans e (rch_edge hk he))⟩
theorem vok_mid {x y z c d : Nat} (h : vok e1 e2 pr E x y c) (g : vok e1 e2 pr E y z d) {v : Nat} (hv : vok e1 e2 pr E x z v) : vok e1 e2 pr E x z (min v (c + d)) := by
  by_cases q : v ≤ c + d
  · rw [Nat.min_eq_left q]; exact hv
  · rw [Nat.min_eq_right (by omega)]
    have := hv.1
    rcases h.2 with e | e
    · omega
    · rcases g.2 with e' | e'
      · omega
      · exact ⟨by omega, Or.inr (rch_trans e e')⟩
end DIS
/-! walks over sites below m -/
def wm (e1 e2 : Nat → Nat) (E : Nat → Prop) (m : Nat) : List Nat → Nat → Nat → Prop
  | [], x, y => x = y
  | k :: p, x, y => E k ∧ ∃ b, ed e1 e2 k x b ∧ ((p = [] ∧ b = y) ∨ (p ≠ [] ∧ b < m ∧ wm e1 e2 E m p b y))
section WMM
variable {e1 e2 pr : Nat → Nat} {E : Nat → Prop}
theorem wm_of {S : Nat} (hw : ewp e1 e2 pr E S) : ∀ {p : List Nat} {x y : Nat}, wk e1 e2 E p x y → wm e1 e2 E S p x y := by
  intro p
  induction p with
  | nil => intro x y h; exact h
  | cons k p ih =>
    intro x y h
    obtain ⟨h1, b, h2, h3⟩ := h
    refine ⟨h1, b, h2, ?_⟩
    cases p with
    | nil => exact Or.inl ⟨rfl, h3⟩
    | cons j p => exact Or.inr ⟨by simp, (ed_lt hw h1 h2).2, ih h3⟩
/-- cost at most c by sites below m -/
def rm (e1 e2 pr : Nat → Nat) (E : Nat → Prop) (m x y c : Nat) : Prop := ∃ p, wm e1 e2 E m p x y ∧ (p.map pr).sum ≤ c
theorem rm_step {m : Nat} : ∀ {p : List Nat} {x y : Nat}, wm e1 e2 E (m + 1) p x y → rm e1 e2 pr E m x y (p.map pr).sum ∨ ∃ c d, rm e1 e2 pr E m x m c ∧ rm e1 e2 pr E m m y d ∧ c + d ≤ (p.map pr).sum := by
  intro p
  induction p with
  | nil => intro x y h; exact Or.inl ⟨[], h, Nat.le_refl _⟩
  | cons k p ih =>
    intro x y h
    obtain ⟨h1, b, h2, h3⟩ := h
    rw [List.map_cons, List.sum_cons]
    have pre : ∀ {z c}, b < m → rm e1 e2 pr E m b z c → rm e1 e2 pr E m x z (pr k + c) := by
      rintro z c hb ⟨q, g1, g2⟩
      cases q with
      | nil =>
        refine ⟨[k], ⟨h1, b, h2, Or.inl ⟨rfl, g1⟩⟩, ?_⟩
        simp
      | cons j q =>
        refine ⟨k :: j :: q, ⟨h1, b, h2, Or.inr ⟨by simp, hb, g1⟩⟩, ?_⟩
        rw [List.map_cons, List.sum_cons]; omega
    rcases h3 with ⟨h3, h4⟩ | ⟨h3, h4, h5⟩
    · subst h3
      exact Or.inl ⟨[k], ⟨h1, b, h2, Or.inl ⟨rfl, h4⟩⟩, by simp⟩
    · by_cases hb : b < m
      · rcases ih h5 with g | ⟨c, d, g1, g2, g3⟩
        · exact Or.inl (pre hb g)
        · exact Or.inr ⟨pr k + c, d, pre hb g1, g2, by omega⟩
      · have e : b = m := by omega
        subst e
        have e1' : rm e1 e2 pr E b x b (pr k) := ⟨[k], ⟨h1, b, h2, Or.inl ⟨rfl, rfl⟩⟩, by simp⟩
        rcases ih h5 with g | ⟨c, d, g1, g2, g3⟩
        · exact Or.inr ⟨pr k, _, e1', g, Nat.le_refl _⟩
        · exact Or.inr ⟨pr k, d, e1', g2, by omega⟩
theorem rm_0 {x y c : Nat} (h : rm e1 e2 pr E 0 x y c) : x = y ∨ ∃ k, E k ∧ ed e1 e2 k x y ∧ pr k ≤ c := by
  obtain ⟨p, h1, h2⟩ := h
  cases p with
  | nil => exact Or.inl h1
  | cons k p =>
    obtain ⟨g1, b, g2, g3⟩ := h1
    rw [List.map_cons, List.sum_cons] at h2
    rcases g3 with ⟨-, g3⟩ | ⟨-, g3, -⟩
    · rw [g3] at g2; exact Or.inr ⟨k, g1, g2, by omega⟩
    · omega
end WMM
