/-! PATHS IN A FOREST. T: the edges, the one taken last first -/
theorem nd_len : ∀ (p T : List Nat), p.Nodup → (∀ k ∈ p, k ∈ T) → p.length ≤ T.length := by
  intro p
  induction p with
  | nil => intro T _ _; exact Nat.zero_le _
  | cons c p ih =>
    intro T hn hs
    obtain ⟨h1, h2⟩ := List.nodup_cons.mp hn
    have hc : c ∈ T := hs c List.mem_cons_self
    have := ih (T.erase c) h2 (fun k hk => by
      have hk' : k ≠ c := fun e => h1 (e ▸ hk)
      exact (List.mem_erase_of_ne hk').mpr (hs k (List.mem_cons_of_mem _ hk)))
    rw [List.length_erase_of_mem hc] at this
    have hp := List.length_pos_of_mem hc
    rw [List.length_cons]
    omega
def fo (e1 e2 : Nat → Nat) : List Nat → Prop
  | [] => True
  | c :: T => fo e1 e2 T ∧ ¬ cn e1 e2 (fun k => k ∈ T) (e1 c) (e2 c)
def pt (e1 e2 : Nat → Nat) : List Nat → Nat → Nat → List Nat → Prop
  | [], x, y, p => x = y ∧ p = []
  | c :: T, x, y, p => pt e1 e2 T x y p ∨ ∃ p1 p2, p = p1 ++ c :: p2 ∧ ((pt e1 e2 T x (e1 c) p1 ∧ pt e1 e2 T (e2 c) y p2) ∨ (pt e1 e2 T x (e2 c) p1 ∧ pt e1 e2 T (e1 c) y p2))
section PTH
variable {e1 e2 : Nat → Nat}
theorem cn_cons {c : Nat} {T : List Nat} {x y : Nat} : cn e1 e2 (fun k => k ∈ c :: T) x y ↔ cn e1 e2 (fun k => k ∈ T ∨ k = c) x y := cn_congr fun k => by rw [List.mem_cons]; exact Or.comm
theorem pt_cn : ∀ {T : List Nat} {x y : Nat} {p : List Nat}, pt e1 e2 T x y p → cn e1 e2 (fun k => k ∈ T) x y := by
  intro T
  induction T with
  | nil => intro x y p h; rw [h.1]; exact cn_refl
  | cons c T ih =>
    intro x y p h
    rw [cn_cons, cn_add]
    rcases h with h | ⟨p1, p2, -, ⟨h1, h2⟩ | ⟨h1, h2⟩⟩
    · exact Or.inl (ih h)
    · exact Or.inr (Or.inl ⟨ih h1, ih h2⟩)
    · exact Or.inr (Or.inr ⟨ih h1, ih h2⟩)
theorem pt_ex : ∀ {T : List Nat} {x y : Nat}, cn e1 e2 (fun k => k ∈ T) x y → ∃ p, pt e1 e2 T x y p := by
  intro T
  induction T with
  | nil => intro x y h; exact ⟨[], (cn_none (fun c h => by cases h)).mp h, rfl⟩
  | cons c T ih =>
    intro x y h
    rw [cn_cons, cn_add] at h
    rcases h with h | ⟨h1, h2⟩ | ⟨h1, h2⟩
    · obtain ⟨p, hp⟩ := ih h; exact ⟨p, Or.inl hp⟩
    · obtain ⟨p, hp⟩ := ih h1; obtain ⟨q, hq⟩ := ih h2; exact ⟨_, Or.inr ⟨p, q, rfl, Or.inl ⟨hp, hq⟩⟩⟩
    · obtain ⟨p, hp⟩ := ih h1; obtain ⟨q, hq⟩ := ih h2; exact ⟨_, Or.inr ⟨p, q, rfl, Or.inr ⟨hp, hq⟩⟩⟩
theorem pt_uq : ∀ {T : List Nat} {x y : Nat} {p q : List Nat}, fo e1 e2 T → pt e1 e2 T x y p → pt e1 e2 T x y q → p = q := by
  intro T
  induction T with
  | nil => intro x y p q _ h g; rw [h.2, g.2]
  | cons c T ih =>
    intro x y p q hf h g
    obtain ⟨hf, hc⟩ := hf
    rcases h with h | ⟨p1, p2, e, ⟨h1, h2⟩ | ⟨h1, h2⟩⟩ <;> rcases g with g | ⟨q1, q2, e', ⟨g1, g2⟩ | ⟨g1, g2⟩⟩
    · exact ih hf h g
    · exact absurd (cn_trans (cn_trans (cn_symm (pt_cn g1)) (pt_cn h)) (cn_symm (pt_cn g2))) hc
    · exact absurd (cn_symm (cn_trans (cn_trans (cn_symm (pt_cn g1)) (pt_cn h)) (cn_symm (pt_cn g2)))) hc
    · exact absurd (cn_trans (cn_trans (cn_symm (pt_cn h1)) (pt_cn g)) (cn_symm (pt_cn h2))) hc
    · rw [e, e', ih hf h1 g1, ih hf h2 g2]
    · exact absurd (cn_trans (cn_symm (pt_cn h1)) (pt_cn g1)) hc
    · exact absurd (cn_symm (cn_trans (cn_trans (cn_symm (pt_cn h1)) (pt_cn g)) (cn_symm (pt_cn h2)))) hc
    · exact absurd (cn_trans (cn_symm (pt_cn g1)) (pt_cn h1)) hc
    · rw [e, e', ih hf h1 g1, ih hf h2 g2]
theorem pt_self : ∀ {T : List Nat} {x : Nat}, pt e1 e2 T x x [] := by
  intro T
  induction T with
  | nil => intro x; exact ⟨rfl, rfl⟩
  | cons c T ih => intro x; exact Or.inl ih
theorem pt_rev : ∀ {T : List Nat} {x y : Nat} {p : List Nat}, pt e1 e2 T x y p → pt e1 e2 T y x p.reverse := by
  intro T
  induction T with
  | nil => intro x y p h; exact ⟨h.1.symm, by rw [h.2]; rfl⟩
  | cons c T ih =>
    intro x y p h
    rcases h with h | ⟨p1, p2, e, ⟨h1, h2⟩ | ⟨h1, h2⟩⟩
    · exact Or.inl (ih h)
    · exact Or.inr ⟨p2.reverse, p1.reverse, by rw [e]; simp, Or.inr ⟨ih h2, ih h1⟩⟩
    · exact Or.inr ⟨p2.reverse, p1.reverse, by rw [e]; simp, Or.inl ⟨ih h2, ih h1⟩⟩
theorem pt_mem : ∀ {T : List Nat} {x y : Nat} {p : List Nat}, pt e1 e2 T x y p → ∀ k ∈ p, k ∈ T ∧ cn e1 e2 (fun k => k ∈ T) x (e1 k) := by
  intro T
  induction T with
  | nil => intro x y p h k hk; rw [h.2] at hk; cases hk
  | cons c T ih =>
    intro x y p h k hk
    have up : ∀ {u v}, cn e1 e2 (fun k => k ∈ T) u v → cn e1 e2 (fun k => k ∈ c :: T) u v := fun h => cn_mono (fun _ h => List.mem_cons_of_mem _ h) h
    have hc : cn e1 e2 (fun k => k ∈ c :: T) (e1 c) (e2 c) := cn_edge List.mem_cons_self
    rcases h with h | ⟨p1, p2, e, ⟨h1, h2⟩ | ⟨h1, h2⟩⟩
    · exact ⟨List.mem_cons_of_mem _ (ih h k hk).1, up (ih h k hk).2⟩
    · rw [e, List.mem_append, List.mem_cons] at hk
      rcases hk with hk | hk | hk
      · exact ⟨List.mem_cons_of_mem _ (ih h1 k hk).1, up (ih h1 k hk).2⟩
      · rw [hk]; exact ⟨List.mem_cons_self, up (pt_cn h1)⟩
      · exact ⟨List.mem_cons_of_mem _ (ih h2 k hk).1, cn_trans (cn_trans (up (pt_cn h1)) hc) (up (ih h2 k hk).2)⟩
    · rw [e, List.mem_append, List.mem_cons] at hk
      rcases hk with hk | hk | hk
      · exact ⟨List.mem_cons_of_mem _ (ih h1 k hk).1, up (ih h1 k hk).2⟩
      · rw [hk]; exact ⟨List.mem_cons_self, cn_trans (up (pt_cn h1)) (cn_symm hc)⟩
      · exact ⟨List.mem_cons_of_mem _ (ih h2 k hk).1, cn_trans (cn_trans (up (pt_cn h1)) (cn_symm hc)) (up (ih h2 k hk).2)⟩
theorem pt_nodup : ∀ {T : List Nat} {x y : Nat} {p : List Nat}, fo e1 e2 T → pt e1 e2 T x y p → p.Nodup := by
  intro T
  induction T with
  | nil => intro x y p _ h; rw [h.2]; exact List.nodup_nil
  | cons c T ih =>
    intro x y p hf h
    obtain ⟨hf, hc⟩ := hf
    have hcT : c ∉ T := fun h => hc (cn_edge h)
    have key : ∀ {u v p1 p2}, pt e1 e2 T x u p1 → pt e1 e2 T v y p2 → ¬ cn e1 e2 (fun k => k ∈ T) u v → (p1 ++ c :: p2).Nodup := by
      intro u v p1 p2 h1 h2 hn
      rw [List.nodup_append]
      refine ⟨ih hf h1, List.nodup_cons.mpr ⟨fun h => hcT (pt_mem h2 c h).1, ih hf h2⟩, fun a ha b hb e => ?_⟩
      subst e
      rcases List.mem_cons.mp hb with hb | hb
      · subst hb; exact hcT (pt_mem h1 a ha).1
      · exact hn (cn_trans (cn_trans (cn_symm (pt_cn h1)) (pt_mem h1 a ha).2) (cn_symm (pt_mem h2 a hb).2))
    rcases h with h | ⟨p1, p2, e, ⟨h1, h2⟩ | ⟨h1, h2⟩⟩
    · exact ih hf h
    · rw [e]; exact key h1 h2 hc
    · rw [e]; exact key h1 h2 (fun h => hc (cn_symm h))
theorem pt_len {T : List Nat} {x y : Nat} {p : List Nat} (hf : fo e1 e2 T) (h : pt e1 e2 T x y p) : p.length ≤ T.length := nd_len p T (pt_nodup hf h) (fun k hk => (pt_mem h k hk).1)
/-- the ends of an edge -/
def ed (e1 e2 : Nat → Nat) (k a b : Nat) : Prop := (a = e1 k ∧ b = e2 k) ∨ (a = e2 k ∧ b = e1 k)
theorem ed_symm {k a b : Nat} (h : ed e1 e2 k a b) : ed e1 e2 k b a := by
  rcases h with h | h
  · exact Or.inr ⟨h.2, h.1⟩
  · exact Or.inl ⟨h.2, h.1⟩
theorem ed_cn {E : Nat → Prop} {k a b : Nat} (h : ed e1 e2 k a b) (hk : E k) : cn e1 e2 E a b := by
  rcases h with h | h
  · rw [h.1, h.2]; exact cn_edge hk
  · rw [h.1, h.2]; exact cn_symm (cn_edge hk)
/-- of the two ends of an edge one lies on the other's way -/
theorem pt_edge : ∀ {T : List Nat} {k a b t : Nat} {p : List Nat}, fo e1 e2 T → k ∈ T → ed e1 e2 k a b → pt e1 e2 T a t p → pt e1 e2 T b t (k :: p) ∨ ∃ q, p = k :: q ∧ pt e1 e2 T b t q := by
  intro T
  induction T with
  | nil => intro k a b t p _ hk; cases hk
  | cons c T ih =>
    intro k a b t p hf hk he h
    obtain ⟨hf, hc⟩ := hf
    rcases List.mem_cons.mp hk with hk | hk
    · subst hk
      have hab : ¬ cn e1 e2 (fun k => k ∈ T) a b := by
        rcases he with he | he
        · rw [he.1, he.2]; exact hc
        · rw [he.1, he.2]; exact fun h => hc (cn_symm h)
      rcases h with h | ⟨p1, p2, e, h⟩
      · refine Or.inl (Or.inr ⟨[], p, rfl, ?_⟩)
        rcases he with he | he
        · rw [he.1] at h; rw [he.2]; exact Or.inr ⟨pt_self, h⟩
        · rw [he.1] at h; rw [he.2]; exact Or.inl ⟨pt_self, h⟩
      · have h' : pt e1 e2 T a a p1 ∧ pt e1 e2 T b t p2 := by
          rcases he with he | he
          · rcases h with h | h
            · exact ⟨he.1 ▸ h.1, he.2 ▸ h.2⟩
            · exact absurd (pt_cn h.1) (by rw [← he.2]; exact hab)
          · rcases h with h | h
            · exact absurd (pt_cn h.1) (by rw [← he.2]; exact hab)
            · exact ⟨he.1 ▸ h.1, he.2 ▸ h.2⟩
        have e1' : p1 = [] := pt_uq hf h'.1 pt_self
        rw [e1'] at e
        exact Or.inr ⟨p2, e, Or.inl h'.2⟩
    · have hab : cn e1 e2 (fun k => k ∈ T) a b := ed_cn he hk
      rcases h with h | ⟨p1, p2, e, h⟩
      · rcases ih hf hk he h with g | ⟨q, g1, g2⟩
        · exact Or.inl (Or.inl g)
        · exact Or.inr ⟨q, g1, Or.inl g2⟩
      · rcases h with ⟨h1, h2⟩ | ⟨h1, h2⟩
        · rcases ih hf hk he h1 with g | ⟨q, g1, g2⟩
          · exact Or.inl (Or.inr ⟨k :: p1, p2, by rw [e]; rfl, Or.inl ⟨g, h2⟩⟩)
          · exact Or.inr ⟨q ++ c :: p2, by rw [e, g1]; rfl, Or.inr ⟨q, p2, rfl, Or.inl ⟨g2, h2⟩⟩⟩
        · rcases ih hf hk he h1 with g | ⟨q, g1, g2⟩
          · exact Or.inl (Or.inr ⟨k :: p1, p2, by rw [e]; rfl, Or.inr ⟨g, h2⟩⟩)
          · exact Or.inr ⟨q ++ c :: p2, by rw [e, g1]; rfl, Or.inr ⟨q, p2, rfl, Or.inr ⟨g2, h2⟩⟩⟩
theorem pt_nil : ∀ {T : List Nat} {x y : Nat}, pt e1 e2 T x y [] → x = y := by
  intro T
  induction T with
  | nil => intro x y h; exact h.1
  | cons c T ih =>
    intro x y h
    rcases h with h | ⟨p1, p2, e, -⟩
    · exact ih h
    · simp at e
/-- the first edge of a way ends where the way begins, and the rest goes on from its other end -/
theorem pt_head : ∀ {T : List Nat} {x t k : Nat} {p : List Nat}, pt e1 e2 T x t (k :: p) → ∃ b, ed e1 e2 k x b ∧ pt e1 e2 T b t p := by
  intro T
  induction T with
  | nil => intro x t k p h; cases h.2
  | cons c T ih =>
    intro x t k p h
    rcases h with h | ⟨p1, p2, e, h⟩
    · obtain ⟨b, g1, g2⟩ := ih h
      exact ⟨b, g1, Or.inl g2⟩
    · cases p1 with
      | nil =>
        have e' : k = c ∧ p = p2 := by simpa using e
        obtain ⟨ek, ep⟩ := e'
        subst ek; subst ep
        rcases h with ⟨h1, h2⟩ | ⟨h1, h2⟩
        · exact ⟨e2 k, Or.inl ⟨pt_nil h1, rfl⟩, Or.inl h2⟩
        · exact ⟨e1 k, Or.inr ⟨pt_nil h1, rfl⟩, Or.inl h2⟩
      | cons d p1 =>
        have e' : k = d ∧ p = p1 ++ c :: p2 := by simpa using e
        obtain ⟨ek, ep⟩ := e'
        subst ek; subst ep
        rcases h with ⟨h1, h2⟩ | ⟨h1, h2⟩
        · obtain ⟨b, g1, g2⟩ := ih h1
          exact ⟨b, g1, Or.inr ⟨p1, p2, rfl, Or.inl ⟨g2, h2⟩⟩⟩
        · obtain ⟨b, g1, g2⟩ := ih h1
          exact ⟨b, g1, Or.inr ⟨p1, p2, rfl, Or.inr ⟨g2, h2⟩⟩⟩
/-- the dearest of a row -/
def dst (pr : Nat → Nat) (p : List Nat) (k : Nat) : Prop := k ∈ p ∧ ∀ j ∈ p, j = k ∨ ch pr j k
theorem dst_uq {pr : Nat → Nat} {p : List Nat} {k j : Nat} (h : dst pr p k) (g : dst pr p j) : k = j := by
  rcases h.2 j g.1 with e | e
  · exact e.symm
  · rcases g.2 k h.1 with e' | e'
    · exact e'
    · exact absurd e (ch_asymm e')
theorem dst_ex {pr : Nat → Nat} : ∀ {p : List Nat}, p ≠ [] → ∃ k, dst pr p k := by
  intro p
  induction p with
  | nil => intro h; exact absurd rfl h
  | cons c p ih =>
    intro _
    by_cases hp : p = []
    · subst hp; exact ⟨c, List.mem_cons_self, fun j hj => Or.inl (List.mem_singleton.mp hj)⟩
    · obtain ⟨k, h1, h2⟩ := ih hp
      by_cases hck : ch pr k c
      · refine ⟨c, List.mem_cons_self, fun j hj => ?_⟩
        rcases List.mem_cons.mp hj with e | hj
        · exact Or.inl e
        · rcases h2 j hj with e | e
          · rw [e]; exact Or.inr hck
          · exact Or.inr (ch_trans e hck)
      · refine ⟨k, List.mem_cons_of_mem _ h1, fun j hj => ?_⟩
        rcases List.mem_cons.mp hj with e | hj
        · rw [e]
          by_cases eck : c = k
          · exact Or.inl eck
          · exact Or.inr ((ch_total eck).resolve_right hck)
        · exact h2 j hj
/-- what is taken is a forest -/
theorem kr_fo {S : Nat} : ∀ (l : List Nat), ew e1 e2 S l → fo e1 e2 (kr e1 e2 l).1.reverse := by
  intro l
  induction l using sn_ind with
  | nil => intro _; exact trivial
  | append_singleton l c ih =>
    intro hl
    have hl' : ew e1 e2 S l := fun k hk => hl k (List.mem_append_left _ hk)
    have ih := ih hl'
    have kk := kr_kp l hl'
    obtain ⟨h1, h2⟩ := hl c (List.mem_append_right _ List.mem_cons_self)
    rw [kr_snoc]
    unfold kst
    by_cases hh : (kr e1 e2 l).2 (e1 c) = (kr e1 e2 l).2 (e2 c)
    · rw [if_pos hh]; exact ih
    · rw [if_neg hh]
      show fo e1 e2 ((kr e1 e2 l).1 ++ [c]).reverse
      rw [List.reverse_append]
      refine ⟨ih, fun h => hh ((kk.1 _ _ h1 h2).mpr ?_)⟩
      rw [← kr_span l hl']
      exact cn_mono (fun k hk => List.mem_reverse.mp hk) h
theorem cnt_pos {p : Nat → Bool} {a : Nat} : ∀ {n : Nat}, a < n → p a = true → 0 < fa_cnt p n := by
  intro n
  induction n with
  | zero => intro h; omega
  | succ n ih =>
    intro h hp
    by_cases e : a = n
    · subst e; rw [fa_cnt_yes hp]; omega
    · have := ih (by omega) hp
      cases hq : p n with
      | true => rw [fa_cnt_yes hq]; omega
      | false => rw [fa_cnt_no hq]; exact this
/-- a forest has fewer edges than there are sites -/
theorem fo_len {S : Nat} (T : List Nat) (hf : fo e1 e2 T) (hw : ∀ k ∈ T, e1 k < S ∧ e2 k < S) (hS : 0 < S) : T.length + 1 ≤ S := by
  have key : ∀ (T : List Nat), fo e1 e2 T → (∀ k ∈ T, e1 k < S ∧ e2 k < S) → (kr e1 e2 T.reverse).1 = T.reverse := by
    intro T
    induction T with
    | nil => intro _ _; rfl
    | cons c T ih =>
      intro hf hw
      have hw' : ∀ k ∈ T, e1 k < S ∧ e2 k < S := fun k hk => hw k (List.mem_cons_of_mem _ hk)
      have hew : ew e1 e2 S T.reverse := fun k hk => hw' k (List.mem_reverse.mp hk)
      have kk := kr_kp T.reverse hew
      obtain ⟨h1, h2⟩ := hw c List.mem_cons_self
      rw [List.reverse_cons, kr_snoc]
      unfold kst
      rw [if_neg (fun g => hf.2 (cn_mono (fun k hk => List.mem_reverse.mp hk) ((kk.1 _ _ h1 h2).mp g)))]
      show (kr e1 e2 T.reverse).1 ++ [c] = _
      rw [ih hf.1 hw']
  have hew : ew e1 e2 S T.reverse := fun k hk => hw k (List.mem_reverse.mp hk)
  have hc := kr_cnt T.reverse hew
  have hk := kr_kp T.reverse hew
  rw [key T hf hw, List.length_reverse] at hc
  have := cnt_pos (p := fun x => decide ((kr e1 e2 T.reverse).2 x = x)) (a := 0) hS (by simp; have := hk.2.1 0; omega)
  omega
/-- what is taken of an ordered row is ordered -/
theorem kr_subl : ∀ (l : List Nat), List.Sublist (kr e1 e2 l).1 l := by
  intro l
  induction l using sn_ind with
  | nil => exact List.Sublist.slnil
  | append_singleton l c ih =>
    rw [kr_snoc]
    unfold kst
    split
    · exact ih.trans (List.sublist_append_left l [c])
    · exact List.Sublist.append ih (List.Sublist.refl [c])
end PTH
