/-! APART: flows -/
def phi (e1 e2 : Nat → Nat) (g : Nat → Int) (p : Nat → Int) : Nat → Int
  | 0 => 0
  | n + 1 => phi e1 e2 g p n + g n * (p (e1 n) - p (e2 n))
def updI (g : Nat → Int) (j : Nat) (v : Int) : Nat → Int := fun k => if k = j then v else g k
theorem updI_at (g : Nat → Int) (j : Nat) (v : Int) : updI g j v j = v := if_pos rfl
theorem updI_ne {g : Nat → Int} {j k : Nat} {v : Int} (h : k ≠ j) : updI g j v k = g k := if_neg h
section FLW
variable {e1 e2 : Nat → Nat} {g h : Nat → Int} {p : Nat → Int}
theorem phi_cong : ∀ {n : Nat}, (∀ k, k < n → g k = h k) → phi e1 e2 g p n = phi e1 e2 h p n := by
  intro n
  induction n with
  | zero => intro _; rfl
  | succ n ih => intro hk; rw [phi, phi, ih (fun k hh => hk k (by omega)), hk n (by omega)]
theorem phi_upd {j : Nat} {v : Int} : ∀ {n : Nat}, j < n → phi e1 e2 (updI g j (g j + v)) p n = phi e1 e2 g p n + v * (p (e1 j) - p (e2 j)) := by
  intro n
  induction n with
  | zero => intro h; omega
  | succ n ih =>
    intro hj
    rw [phi, phi]
    by_cases e : j = n
    · subst e
      rw [phi_cong (h := g) (fun k hk => updI_ne (by omega)), updI_at, Int.add_mul]; omega
    · rw [ih (by omega), updI_ne (fun h => e h.symm)]; omega
theorem phi_0 : ∀ n, phi e1 e2 (fun _ => 0) p n = 0 := by
  intro n
  induction n with
  | zero => rfl
  | succ n ih => rw [phi, ih]; simp
/-- the cables over a border -/
def bdr (e1 e2 : Nat → Nat) (E : Nat → Bool) (R : Nat → Bool) : Nat → Int
  | 0 => 0
  | n + 1 => bdr e1 e2 E R n + (if E n && (R (e1 n) != R (e2 n)) then 1 else 0)
def ind (R : Nat → Bool) (x : Nat) : Int := if R x then 1 else 0
theorem bdr_le (E R : Nat → Bool) : ∀ n, bdr e1 e2 E R n ≤ n := by
  intro n
  induction n with
  | zero => exact Int.le_refl _
  | succ n ih => rw [bdr]; split <;> omega
theorem phi_le (E R : Nat → Bool) (hb : ∀ k, -1 ≤ g k ∧ g k ≤ 1) (h0 : ∀ k, E k = false → g k = 0) : ∀ n, phi e1 e2 g (ind R) n ≤ bdr e1 e2 E R n := by
  intro n
  induction n with
  | zero => exact Int.le_refl _
  | succ n ih =>
    rw [phi, bdr]
    have hb := hb n
    have h0 := h0 n
    unfold ind
    cases hE : E n with
    | false => rw [h0 hE]; simp; unfold ind at ih; exact ih
    | true =>
      unfold ind at ih
      cases h1 : R (e1 n) <;> cases h2 : R (e2 n) <;> simp <;> omega
theorem phi_eq (E R : Nat → Bool) (h0 : ∀ k, E k = false → g k = 0) (hs : ∀ k, E k = true → (R (e1 k) = true → R (e2 k) = false → g k = 1) ∧ (R (e2 k) = true → R (e1 k) = false → g k = -1)) : ∀ n, phi e1 e2 g (ind R) n = bdr e1 e2 E R n := by
  intro n
  induction n with
  | zero => rfl
  | succ n ih =>
    rw [phi, bdr]
    have h0 := h0 n
    have hs := hs n
    unfold ind at ih ⊢
    cases hE : E n with
    | false => rw [h0 hE]; simp; exact ih
    | true =>
      obtain ⟨s1, s2⟩ := hs hE
      cases h1 : R (e1 n) <;> cases h2 : R (e2 n) <;> simp
      · exact ih
      · rw [s2 h2 h1, ih]; omega
      · rw [s1 h1 h2, ih]; try omega
      · exact ih
end FLW
/-- a flow -/
def flw (e1 e2 : Nat → Nat) (N : Nat) (E : Nat → Bool) (g : Nat → Int) (a b : Nat) (v : Int) : Prop := (∀ k, -1 ≤ g k ∧ g k ≤ 1) ∧ (∀ k, E k = false → g k = 0) ∧ ∀ p, phi e1 e2 g p N = v * (p a - p b)
/-- no further way: what can be come to is closed -/
def cls (e1 e2 : Nat → Nat) (E : Nat → Bool) (g : Nat → Int) (a b : Nat) : Prop := ∃ R : Nat → Bool, R a = true ∧ R b = false ∧ ∀ k, E k = true → (R (e1 k) = true → R (e2 k) = false → g k = 1) ∧ (R (e2 k) = true → R (e1 k) = false → g k = -1)
theorem flw_le {e1 e2 : Nat → Nat} {N a b : Nat} {E : Nat → Bool} {g h : Nat → Int} {u v : Int} (hg : flw e1 e2 N E g a b u) (hc : cls e1 e2 E g a b) (hh : flw e1 e2 N E h a b v) : v ≤ u := by
  obtain ⟨R, r1, r2, r3⟩ := hc
  have e1' := hg.2.2 (ind R)
  have e2' := hh.2.2 (ind R)
  rw [phi_eq E R hg.2.1 r3] at e1'
  have := phi_le (e1 := e1) (e2 := e2) E R hh.1 hh.2.1 N
  unfold ind at e1' e2' this
  rw [r1, r2] at e1' e2'
  simp at e1' e2'
  omega
theorem flw_N {e1 e2 : Nat → Nat} {N a b : Nat} {E : Nat → Bool} {g : Nat → Int} {u : Int} (hab : a ≠ b) (hg : flw e1 e2 N E g a b u) : u ≤ N := by
  have e1' := hg.2.2 (ind (fun x => decide (x = a)))
  have := phi_le (e1 := e1) (e2 := e2) E (fun x => decide (x = a)) hg.1 hg.2.1 N
  have := bdr_le (e1 := e1) (e2 := e2) E (fun x => decide (x = a)) N
  have ha : ind (fun x => decide (x = a)) a = 1 := by simp [ind]
  have hb : ind (fun x => decide (x = a)) b = 0 := by simp [ind]; exact fun h => hab h.symm
  rw [ha, hb] at e1'
  omega
/-- a value's number -/
def iI (z : Int) : Int32 := Int32.ofInt z
theorem iI_nat (n : Nat) : iI (n : Int) = nI n := rfl
theorem iI_add (a b : Int) : iI a + iI b = iI (a + b) := by unfold iI; rw [Int32.ofInt_add]
theorem iI_1 {z : Int} (h : -1 ≤ z ∧ z ≤ 1) : z = -1 ∨ z = 0 ∨ z = 1 := by omega
