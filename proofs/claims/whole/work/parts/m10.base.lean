/-! NUMBERS for simp: literals and small numbers as one kind -/
theorem nl_add1 (a b : Nat) : nI a + (no_index (OfNat.ofNat b : Int32)) = nI (a + OfNat.ofNat b) := nI_add a b
theorem nl_add2 (a b : Nat) : (no_index (OfNat.ofNat a : Int32)) + nI b = nI (OfNat.ofNat a + b) := nI_add a b
theorem nl_mul1 (a b : Nat) : nI a * (no_index (OfNat.ofNat b : Int32)) = nI (a * OfNat.ofNat b) := nI_mul a b
theorem nl_mul2 (a b : Nat) : (no_index (OfNat.ofNat a : Int32)) * nI b = nI (OfNat.ofNat a * b) := nI_mul a b
theorem nl_sub1 {a b : Nat} (h : OfNat.ofNat b ≤ a) : nI a - (no_index (OfNat.ofNat b : Int32)) = nI (a - OfNat.ofNat b) := nI_sub h
theorem nl_lt1 {a b : Nat} (ha : a < 2 ^ 31) (hb : OfNat.ofNat b < 2 ^ 31) : nI a < (no_index (OfNat.ofNat b : Int32)) ↔ a < OfNat.ofNat b := nI_ltI ha hb
theorem nl_lt2 {a b : Nat} (ha : OfNat.ofNat a < 2 ^ 31) (hb : b < 2 ^ 31) : (no_index (OfNat.ofNat a : Int32)) < nI b ↔ OfNat.ofNat a < b := nI_ltI ha hb
theorem nl_le1 {a b : Nat} (ha : a < 2 ^ 31) (hb : OfNat.ofNat b < 2 ^ 31) : nI a ≤ (no_index (OfNat.ofNat b : Int32)) ↔ a ≤ OfNat.ofNat b := nI_leI ha hb
theorem nl_le2 {a b : Nat} (ha : OfNat.ofNat a < 2 ^ 31) (hb : b < 2 ^ 31) : (no_index (OfNat.ofNat a : Int32)) ≤ nI b ↔ OfNat.ofNat a ≤ b := nI_leI ha hb
theorem nl_eq1 {a b : Nat} (ha : a < 2 ^ 31) (hb : OfNat.ofNat b < 2 ^ 31) : nI a = (no_index (OfNat.ofNat b : Int32)) ↔ a = OfNat.ofNat b := nI_eq ha hb
theorem nl_eq2 {a b : Nat} (ha : OfNat.ofNat a < 2 ^ 31) (hb : b < 2 ^ 31) : (no_index (OfNat.ofNat a : Int32)) = nI b ↔ OfNat.ofNat a = b := nI_eq ha hb
theorem nl_m1 {a : Nat} (h : a < 2 ^ 31) : nI a = -1 ↔ False := ⟨nI_m1 h, False.elim⟩
theorem nl_m2 {a : Nat} (h : a < 2 ^ 31) : -1 = nI a ↔ False := ⟨fun e => nI_m1 h e.symm, False.elim⟩
theorem nl_in {a N : Nat} (h : a < 2 ^ 31) : vp_in (nI a) N ↔ a < N := by
  unfold vp_in
  rw [nI_clamp h]
  constructor
  · intro g
    exact Nat.lt_of_not_le fun e => g (Or.inr e)
  · intro g e
    rcases e with e | e
    · exact nI_pos h e
    · omega
theorem nl_inT {a N : Nat} (h : a < N) (hN : N < 2 ^ 31) : vp_in (nI a) N ↔ True := ⟨fun _ => trivial, fun _ => vp_in_nI h hN⟩
theorem nl_bit (x : Int32) {k : Nat} (hk : k < 32) : ((x >>> (nI k &&& 31)) &&& 1) = 1 ↔ bt x k = true := ab_bit_iff x hk
def oI : Option Nat → Int32
  | none => -1
  | some n => nI n
theorem oI_n : oI none = -1 := rfl
theorem oI_s (n : Nat) : oI (some n) = nI n := rfl
theorem oI_m1 {n : Nat} (h : n < 2 ^ 31) : oI (some n) = -1 ↔ False := nl_m1 h
/-- a loop that counts up -/
theorem up_ind {N : Nat} {E : Nat → Prop} (hN : E N) (hs : ∀ i, i < N → E (i + 1) → E i) : ∀ i, i ≤ N → E i := by
  have key : ∀ k i, i + k = N → E i := by
    intro k
    induction k with
    | zero => intro i hi; rw [show i = N by omega]; exact hN
    | succ k ih => intro i hi; exact hs i (by omega) (ih (i + 1) (by omega))
  exact fun i hi => key (N - i) i (by omega)
/-- a row that is written place by place -/
theorem fill_up {g f : Nat → Int32} {i : Nat} {x : Int32} (hx : x = g i) : upd (fun k => if k < i then g k else f k) i x = fun k => if k < i + 1 then g k else f k := by
  funext k
  by_cases e : k = i
  · subst e; rw [pk_us, if_pos (by omega), hx]
  · rw [pk_un e]
    by_cases h : k < i
    · rw [if_pos h, if_pos (by omega)]
    · rw [if_neg h, if_neg (by omega)]
theorem fill_0 {g f : Nat → Int32} : (fun k => if k < 0 then g k else f k) = f := by
  funext k; rw [if_neg (Nat.not_lt_zero k)]
theorem fill_at {g f : Nat → Int32} {i k : Nat} (h : i ≤ k) : (fun k => if k < i then g k else f k) k = f k := if_neg (by omega)
theorem bb_t {c X Y : Prop} (h : c) (k : X) : (c → X) ∧ (¬ c → Y) := ⟨fun _ => k, fun g => absurd h g⟩
theorem bb_f {c X Y : Prop} (h : ¬ c) (k : Y) : (c → X) ∧ (¬ c → Y) := ⟨fun g => absurd g h, fun _ => k⟩
theorem bb_t' {c X Y : Prop} (h : c) (k : Y) : (¬ c → X) ∧ (c → Y) := ⟨fun g => absurd h g, fun _ => k⟩
theorem bb_f' {c X Y : Prop} (h : ¬ c) (k : X) : (¬ c → X) ∧ (c → Y) := ⟨fun _ => k, fun g => absurd g h⟩
theorem ab_mask_put {p : Nat → Bool} {i : Nat} (h : i < 32) (hp : p i = true) : ab_mask i p ||| ((1 : Int32) <<< (nI i &&& 31)) = ab_mask (i + 1) p := by
  rw [ab_mask, if_pos hp]
theorem ab_mask_not {p : Nat → Bool} {i : Nat} (hp : ¬ p i = true) : ab_mask i p = ab_mask (i + 1) p := by
  rw [ab_mask, if_neg hp]
