/-! BITS: how many, the lowest one -/
theorem i32_or_add {x y : Int32} (h : ∀ i, i < 32 → ¬ (bt x i = true ∧ bt y i = true)) : x + y = x ||| y := by
  apply Int32.toBitVec_inj.mp
  rw [Int32.toBitVec_add, Int32.toBitVec_or]
  refine BitVec.add_eq_or_of_and_eq_zero _ _ (BitVec.eq_of_getLsbD_eq fun i hi => ?_)
  rw [BitVec.getLsbD_and, BitVec.getLsbD_zero]
  have := h i hi
  unfold bt at this
  cases h1 : x.toBitVec.getLsbD i <;> cases h2 : y.toBitVec.getLsbD i <;> simp_all
/-- the bits below the lowest -/
def tzm (x : Int32) : Int32 := (x ^^^ (-1)) &&& (x - 1)
theorem bt_low : ∀ t, t < 31 → ∀ i, i < 32 → bt (((1 : Int32) <<< (nI t &&& 31)) - 1) i = decide (i < t) := by decide +kernel
theorem tzm_eq {x : Int32} {t : Nat} (ht : t < 31) (h1 : bt x t = true) (h0 : ∀ i, i < t → bt x i = false) : tzm x = ((1 : Int32) <<< (nI t &&& 31)) - 1 := by
  have e1 : x = (x &&& (((1 : Int32) <<< (nI t &&& 31)) ^^^ (-1))) ||| ((1 : Int32) <<< (nI t &&& 31)) := b_ext fun i hi => by
    rw [b_or, b_and, ab_bnot _ hi, ab_sh1 (by omega) hi]
    by_cases e : i = t
    · subst e; simp [h1]
    · simp [e]
  generalize hy : x &&& (((1 : Int32) <<< (nI t &&& 31)) ^^^ (-1)) = y at e1
  have hyb : ∀ i, i < 32 → i ≤ t → bt y i = false := fun i hi hit => by
    rw [← hy, b_and, ab_bnot _ hi, ab_sh1 (by omega) hi]
    by_cases e : i = t
    · simp [e]
    · rw [h0 i (by omega)]; rfl
  have e2 : x - 1 = y ||| (((1 : Int32) <<< (nI t &&& 31)) - 1) := by
    have a1 : y + ((1 : Int32) <<< (nI t &&& 31)) = y ||| ((1 : Int32) <<< (nI t &&& 31)) := i32_or_add fun i hi g => by
      rw [ab_sh1 (by omega) hi, decide_eq_true_iff] at g
      rw [g.2] at g
      have := hyb t (by omega) (Nat.le_refl _)
      rw [this] at g
      exact absurd g.1 (by decide)
    have a2 : y + (((1 : Int32) <<< (nI t &&& 31)) - 1) = y ||| (((1 : Int32) <<< (nI t &&& 31)) - 1) := i32_or_add fun i hi g => by
      rw [bt_low t ht i hi, decide_eq_true_iff] at g
      rw [hyb i hi (by omega)] at g
      exact absurd g.1 (by decide)
    rw [← a2, e1, ← a1, Int32.sub_eq_add_neg, Int32.sub_eq_add_neg, Int32.add_assoc]
  unfold tzm
  rw [e2]
  refine b_ext fun i hi => ?_
  rw [b_and, ab_bnot _ hi, b_or, bt_low t ht i hi]
  by_cases hit : i < t
  · rw [h0 i hit, hyb i hi (by omega)]; simp [hit]
  · by_cases e : i = t
    · subst e; rw [h1]; simp
    · have : bt x i = bt y i := by
        conv => lhs; rw [e1]
        rw [b_or, ab_sh1 (by omega) hi]; simp [e]
      rw [this]; simp [hit]
section BIT
variable {w : ab_Wd} {d n nc ns : Nat} {I : Nat → Nat → Int32} {L : Nat → Nat → Int64}
theorem z_tz (hT : w.1.stackTraces = false) {x : Int32} {t : Nat} (ht : t < 24) (h1 : bt x t = true) (h0 : ∀ i, i < t → bt x i = false) : ab_P w d mt_Integer_numberOfTrailingZeros [.int x] I L n nc ns (nI t) := by
  have e := tzm_eq (by omega) h1 h0
  unfold tzm at e
  refine ab_C_of (by decide) rfl (Nat.le_of_ble_eq_true rfl) hT ?_
  refine r_Integer_numberOfTrailingZeros_0 hT _ (Nat.le_refl _) (Nat.le_refl _) ?_
  rw [e]
  have key : ∀ t, t < 24 → t = 0 ∨ t = 1 ∨ t = 2 ∨ t = 3 ∨ t = 4 ∨ t = 5 ∨ t = 6 ∨ t = 7 ∨ t = 8 ∨ t = 9 ∨ t = 10 ∨ t = 11 ∨ t = 12 ∨ t = 13 ∨ t = 14 ∨ t = 15 ∨ t = 16 ∨ t = 17 ∨ t = 18 ∨ t = 19 ∨ t = 20 ∨ t = 21 ∨ t = 22 ∨ t = 23 := by omega
  rcases key t ht with e | e | e | e | e | e | e | e | e | e | e | e | e | e | e | e | e | e | e | e | e | e | e | e <;> subst e <;> (repeat' (first | exact rfl | (refine And.intro ?_ ?_) | (intro g; first | exact absurd g (by decide) | skip)))
theorem z_low (hT : w.1.stackTraces = false) {x : Int32} (h : ∀ t, t < 24 → bt x t = false) : ab_P w d mt_K_lowestOf [.int x] I L n nc ns (-1) := by
  refine ab_C_of (by decide) rfl (Nat.le_of_ble_eq_true rfl) hT ?_
  refine r_K_lowestOf_0 hT _ (Nat.le_refl _) (Nat.le_refl _) ?_
  refine up_ind (N := 24) (E := fun i => ab_E w d mt_K_lowestOf 2 [.int x, .int (nI i)] [] (I, L, ab_RR, n, nc, ns) (.inl (some (.int (-1))), (I, L, ab_RR, n, nc, ns))) ?_ ?_ 0 (Nat.zero_le _)
  · refine r_K_lowestOf_2 hT _ _ (Nat.le_refl _) (Nat.le_refl _) ?_
    exact bb_t (by decide) rfl
  · intro i hi nx
    have hiN : ¬ 24 ≤ i := by omega
    have hb := h i hi
    refine r_K_lowestOf_2 hT _ _ (Nat.le_refl _) (Nat.le_refl _) ?_
    simp (disch := first | omega | decide) only [hiN, hb, nl_add1, nl_add2, nl_mul1, nl_mul2, nl_sub1, nl_lt1, nl_lt2, nl_le1, nl_le2, nl_eq1, nl_eq2, nl_m1, nl_m2, nl_inT, nI_add, nI_mul, nI_leI, nI_ltI, nI_eq, nI_clamp, nl_bit, oI_n, oI_s, oI_m1, true_and, and_true, eq_self, Bool.false_eq_true, not_false_eq_true, not_true_eq_false, false_implies, true_implies, implies_true, forall_const, Nat.not_lt_zero, ab_row_eq, ab_row_ne, ab_up_i, ab_up_o, pk_us, pk_un, ab_row_row]
    exact nx
theorem z_lowS (hT : w.1.stackTraces = false) {x : Int32} {t : Nat} (ht : t < 24) (h1 : bt x t = true) (h0 : ∀ i, i < t → bt x i = false) : ab_P w d mt_K_lowestOf [.int x] I L n nc ns (nI t) := by
  refine ab_C_of (by decide) rfl (Nat.le_of_ble_eq_true rfl) hT ?_
  refine r_K_lowestOf_0 hT _ (Nat.le_refl _) (Nat.le_refl _) ?_
  refine up_ind (N := t) (E := fun i => ab_E w d mt_K_lowestOf 2 [.int x, .int (nI i)] [] (I, L, ab_RR, n, nc, ns) (.inl (some (.int (nI t))), (I, L, ab_RR, n, nc, ns))) ?_ ?_ 0 (Nat.zero_le _)
  · have hiN : ¬ 24 ≤ t := by omega
    refine r_K_lowestOf_2 hT _ _ (Nat.le_refl _) (Nat.le_refl _) ?_
    simp (disch := first | omega | decide) only [hiN, h1, nl_add1, nl_add2, nl_mul1, nl_mul2, nl_sub1, nl_lt1, nl_lt2, nl_le1, nl_le2, nl_eq1, nl_eq2, nl_m1, nl_m2, nl_inT, nI_add, nI_mul, nI_leI, nI_ltI, nI_eq, nI_clamp, nl_bit, oI_n, oI_s, oI_m1, true_and, and_true, eq_self, Bool.false_eq_true, not_false_eq_true, not_true_eq_false, false_implies, true_implies, implies_true, forall_const, Nat.not_lt_zero, ab_row_eq, ab_row_ne, ab_up_i, ab_up_o, pk_us, pk_un, ab_row_row]
  · intro i hi nx
    have hiN : ¬ 24 ≤ i := by omega
    have hb := h0 i hi
    refine r_K_lowestOf_2 hT _ _ (Nat.le_refl _) (Nat.le_refl _) ?_
    simp (disch := first | omega | decide) only [hiN, hb, nl_add1, nl_add2, nl_mul1, nl_mul2, nl_sub1, nl_lt1, nl_lt2, nl_le1, nl_le2, nl_eq1, nl_eq2, nl_m1, nl_m2, nl_inT, nI_add, nI_mul, nI_leI, nI_ltI, nI_eq, nI_clamp, nl_bit, oI_n, oI_s, oI_m1, true_and, and_true, eq_self, Bool.false_eq_true, not_false_eq_true, not_true_eq_false, false_implies, true_implies, implies_true, forall_const, Nat.not_lt_zero, ab_row_eq, ab_row_ne, ab_up_i, ab_up_o, pk_us, pk_un, ab_row_row]
    exact nx
end BIT
/-- a word is 0, or has a lowest bit -/
theorem low_ex {x : Int32} (h : ∀ t, 24 ≤ t → t < 32 → bt x t = false) : x = 0 ∨ ∃ t, t < 24 ∧ bt x t = true ∧ ∀ i, i < t → bt x i = false := by
  by_cases hz : ∃ t, t < 24 ∧ bt x t = true
  · right
    have key : ∀ m, (∃ t, t < m ∧ t < 24 ∧ bt x t = true) → ∃ t, t < 24 ∧ bt x t = true ∧ ∀ i, i < t → bt x i = false := by
      intro m
      induction m with
      | zero => rintro ⟨t, h, -⟩; omega
      | succ m ih =>
        rintro ⟨t, h1, h2, h3⟩
        by_cases g : ∃ t, t < m ∧ t < 24 ∧ bt x t = true
        · exact ih g
        · refine ⟨t, h2, h3, fun i hi => ?_⟩
          cases hb : bt x i with
          | true => exact absurd ⟨i, by omega, by omega, hb⟩ g
          | false => rfl
    obtain ⟨t, h1, h2⟩ := hz
    exact key 24 ⟨t, h1, h1, h2⟩
  · left
    refine b_ext fun i hi => ?_
    rw [b_0]
    by_cases h24 : i < 24
    · cases hb : bt x i with
      | true => exact absurd ⟨i, h24, hb⟩ hz
      | false => rfl
    · exact h i (by omega) hi
/-! how many bits -/
def bc1 (x : Int32) : Int32 := x - ((ab_ushr x 1) &&& 1431655765)
def bc2 (x : Int32) : Int32 := (x &&& 858993459) + ((ab_ushr x 2) &&& 858993459)
def bc3 (x : Int32) : Int32 := (x + (ab_ushr x 4)) &&& 252645135
def bc4 (x : Int32) : Int32 := x + (ab_ushr x 8)
def bc5 (x : Int32) : Int32 := (x + (ab_ushr x 16)) &&& 63
def bv (x : Int32) (j : Nat) : Nat := if bt x j = true then 1 else 0
theorem bv_le (x : Int32) (j : Nat) : bv x j ≤ 1 := by unfold bv; split <;> omega
def nb (x : Int32) (i : Nat) : Nat := bv x (4 * i) + 2 * bv x (4 * i + 1) + 4 * bv x (4 * i + 2) + 8 * bv x (4 * i + 3)
def pop4 (c : Nat) : Nat := c % 2 + c / 2 % 2 + c / 4 % 2 + c / 8 % 2
theorem nb_lt (x : Int32) (i : Nat) : nb x i < 16 := by
  have h0 := bv_le x (4 * i)
  have h1 := bv_le x (4 * i + 1)
  have h2 := bv_le x (4 * i + 2)
  have h3 := bv_le x (4 * i + 3)
  unfold nb; omega
theorem nb_pop (x : Int32) (i : Nat) : pop4 (nb x i) = bv x (4 * i) + bv x (4 * i + 1) + bv x (4 * i + 2) + bv x (4 * i + 3) := by
  have h0 := bv_le x (4 * i)
  have h1 := bv_le x (4 * i + 1)
  have h2 := bv_le x (4 * i + 2)
  have h3 := bv_le x (4 * i + 3)
  unfold pop4 nb; omega
theorem nib_tb : ∀ a b c e : Bool, ∀ r, r < 4 → ((if a = true then 1 else 0) + 2 * (if b = true then 1 else 0) + 4 * (if c = true then 1 else 0) + 8 * (if e = true then 1 else 0) : Nat).testBit r = [a, b, c, e].getD r false := by decide
theorem nb_tb (x : Int32) (i r : Nat) (hr : r < 4) : (nb x i).testBit r = bt x (4 * i + r) := by
  have := nib_tb (bt x (4 * i)) (bt x (4 * i + 1)) (bt x (4 * i + 2)) (bt x (4 * i + 3)) r hr
  unfold nb bv
  rw [this]
  rcases (by omega : r = 0 ∨ r = 1 ∨ r = 2 ∨ r = 3) with e | e | e | e <;> subst e <;> rfl
theorem nib_bt : ∀ i, i < 6 → ∀ c, c < 16 → ∀ j, j < 32 → bt (nI (c * 16 ^ i)) j = (decide (4 * i ≤ j) && (decide (j < 4 * i + 4) && c.testBit (j - 4 * i))) := by decide +kernel
theorem nib_1 : ∀ i, i < 6 → ∀ c, c < 16 → ∀ j, j < 32 → bt (bc1 (nI (c * 16 ^ i))) j = true → 4 * i ≤ j ∧ j < 4 * i + 4 := by decide +kernel
theorem nib_2 : ∀ i, i < 6 → ∀ c, c < 16 → bc2 (bc1 (nI (c * 16 ^ i))) = nI (pop4 c * 16 ^ i) := by decide +kernel
theorem ushr_or (x y : Int32) (k : Nat) (hk : k < 32) : ab_ushr (x ||| y) (nI k) = ab_ushr x (nI k) ||| ab_ushr y (nI k) := b_ext fun i hi => by
  rw [b_or]
  unfold ab_ushr
  rw [b_ushr k hk, b_ushr k hk, b_ushr k hk, b_or]
theorem msk_or {x y m : Int32} : (x ||| y) &&& m = (x &&& m) ||| (y &&& m) := b_ext fun i hi => by
  rw [b_or, b_and, b_and, b_and, b_or, Bool.and_or_distrib_right]
theorem bc1_or {x y : Int32} (h : ∀ i, i < 32 → ¬ (bt x i = true ∧ bt y i = true)) : bc1 (x ||| y) = bc1 x + bc1 y := by
  have d1 : ∀ i, i < 32 → ¬ (bt ((ab_ushr x 1) &&& 1431655765) i = true ∧ bt ((ab_ushr y 1) &&& 1431655765) i = true) := fun i hi g => by
    rw [b_and, b_and, Bool.and_eq_true, Bool.and_eq_true] at g
    have g1 : bt (ab_ushr x (nI 1)) i = true := g.1.1
    have g2 : bt (ab_ushr y (nI 1)) i = true := g.2.1
    unfold ab_ushr at g1 g2
    rw [b_ushr 1 (by decide)] at g1 g2
    by_cases e : 1 + i < 32
    · exact h _ e ⟨g1, g2⟩
    · rw [b_big (by omega)] at g1; cases g1
  have e1 : ab_ushr (x ||| y) 1 = ab_ushr x 1 ||| ab_ushr y 1 := ushr_or x y 1 (by decide)
  unfold bc1
  rw [e1, msk_or, ← i32_or_add d1, ← i32_or_add h]
  generalize (ab_ushr x 1) &&& 1431655765 = u
  generalize (ab_ushr y 1) &&& 1431655765 = v
  apply Int32.toBitVec_inj.mp
  simp only [Int32.toBitVec_add, Int32.toBitVec_sub]
  rw [BitVec.sub_eq_add_neg, BitVec.sub_eq_add_neg, BitVec.sub_eq_add_neg, BitVec.neg_add, BitVec.sub_eq_add_neg]
  ac_rfl
theorem bc2_or {x y : Int32} (h : ∀ i, i < 32 → ¬ (bt x i = true ∧ bt y i = true)) : bc2 (x ||| y) = bc2 x + bc2 y := by
  have d0 : ∀ i, i < 32 → ¬ (bt (x &&& 858993459) i = true ∧ bt (y &&& 858993459) i = true) := fun i hi g => by
    rw [b_and, b_and, Bool.and_eq_true, Bool.and_eq_true] at g
    exact h i hi ⟨g.1.1, g.2.1⟩
  have d1 : ∀ i, i < 32 → ¬ (bt ((ab_ushr x 2) &&& 858993459) i = true ∧ bt ((ab_ushr y 2) &&& 858993459) i = true) := fun i hi g => by
    rw [b_and, b_and, Bool.and_eq_true, Bool.and_eq_true] at g
    have g1 : bt (ab_ushr x (nI 2)) i = true := g.1.1
    have g2 : bt (ab_ushr y (nI 2)) i = true := g.2.1
    unfold ab_ushr at g1 g2
    rw [b_ushr 2 (by decide)] at g1 g2
    by_cases e : 2 + i < 32
    · exact h _ e ⟨g1, g2⟩
    · rw [b_big (by omega)] at g1; cases g1
  have e1 : ab_ushr (x ||| y) 2 = ab_ushr x 2 ||| ab_ushr y 2 := ushr_or x y 2 (by decide)
  unfold bc2
  rw [e1, msk_or, msk_or, ← i32_or_add d1, ← i32_or_add d0]
  ac_rfl
/-- parts of a word, one above the other -/
theorem bc_add {x y : Int32} {lo : Nat} (hx : ∀ j, j < 32 → bt x j = true → j < lo) (hy : ∀ j, j < 32 → bt y j = true → lo ≤ j) (gx : ∀ j, j < 32 → bt (bc1 x) j = true → j < lo) (gy : ∀ j, j < 32 → bt (bc1 y) j = true → lo ≤ j) :
    bc1 (x ||| y) = bc1 x ||| bc1 y ∧ bc2 (bc1 (x ||| y)) = bc2 (bc1 x) + bc2 (bc1 y) := by
  have d1 : ∀ i, i < 32 → ¬ (bt x i = true ∧ bt y i = true) := fun i hi g => by
    have := hx i hi g.1; have := hy i hi g.2; omega
  have d2 : ∀ i, i < 32 → ¬ (bt (bc1 x) i = true ∧ bt (bc1 y) i = true) := fun i hi g => by
    have := gx i hi g.1; have := gy i hi g.2; omega
  have e1 : bc1 (x ||| y) = bc1 x ||| bc1 y := by rw [bc1_or d1, i32_or_add d2]
  exact ⟨e1, by rw [e1, bc2_or d2]⟩
/-- the nibbles from i on -/
def nbs (x : Int32) : Nat → Nat → Int32
  | _, 0 => 0
  | i, m + 1 => nI (nb x i * 16 ^ i) ||| nbs x (i + 1) m
def pps (x : Int32) : Nat → Nat → Nat
  | _, 0 => 0
  | i, m + 1 => pop4 (nb x i) * 16 ^ i + pps x (i + 1) m
theorem bc1_0 : bc1 0 = 0 := by decide +kernel
theorem bc2_0 : bc2 0 = 0 := by decide +kernel
theorem nbs_ok (x : Int32) : ∀ m i, i + m = 6 → (∀ j, j < 32 → bt (nbs x i m) j = true → 4 * i ≤ j) ∧ (∀ j, j < 32 → bt (bc1 (nbs x i m)) j = true → 4 * i ≤ j) ∧ bc2 (bc1 (nbs x i m)) = nI (pps x i m) := by
  intro m
  induction m with
  | zero =>
    intro i _
    refine ⟨fun j _ h => ?_, fun j _ h => ?_, ?_⟩
    · rw [nbs, b_0] at h; cases h
    · rw [nbs, bc1_0, b_0] at h; cases h
    · rw [nbs, bc1_0, bc2_0]; rfl
  | succ m ih =>
    intro i hi
    obtain ⟨h1, h2, h3⟩ := ih (i + 1) (by omega)
    have c := nb_lt x i
    have n1 : ∀ j, j < 32 → bt (nI (nb x i * 16 ^ i)) j = true → 4 * i ≤ j ∧ j < 4 * i + 4 := fun j hj h => by
      rw [nib_bt i (by omega) _ c j hj, Bool.and_eq_true, Bool.and_eq_true, decide_eq_true_iff, decide_eq_true_iff] at h
      exact ⟨h.1, h.2.1⟩
    have n2 := nib_1 i (by omega) _ c
    obtain ⟨a1, a2⟩ := bc_add (x := nI (nb x i * 16 ^ i)) (y := nbs x (i + 1) m) (lo := 4 * i + 4) (fun j hj h => (n1 j hj h).2) (fun j hj h => by have := h1 j hj h; omega) (fun j hj h => (n2 j hj h).2) (fun j hj h => by have := h2 j hj h; omega)
    refine ⟨fun j hj h => ?_, fun j hj h => ?_, ?_⟩
    · rw [nbs, b_or, Bool.or_eq_true] at h
      rcases h with h | h
      · exact (n1 j hj h).1
      · have := h1 j hj h; omega
    · rw [nbs, a1, b_or, Bool.or_eq_true] at h
      rcases h with h | h
      · exact (n2 j hj h).1
      · have := h2 j hj h; omega
    · rw [nbs, a2, nib_2 i (by omega) _ c, h3, nI_add, pps]
theorem nbs_eq {x : Int32} (h : ∀ t, 24 ≤ t → t < 32 → bt x t = false) : x = nbs x 0 6 := b_ext fun j hj => by
  have hj4 : j = 4 * (j / 4) + j % 4 := by omega
  have tb := nb_tb x (j / 4) (j % 4) (by omega)
  rw [← hj4] at tb
  simp only [nbs, b_or, b_0, Bool.or_false]
  rw [nib_bt 0 (by omega) _ (nb_lt x 0) j hj, nib_bt (0 + 1) (by omega) _ (nb_lt x _) j hj, nib_bt (0 + 1 + 1) (by omega) _ (nb_lt x _) j hj, nib_bt (0 + 1 + 1 + 1) (by omega) _ (nb_lt x _) j hj, nib_bt (0 + 1 + 1 + 1 + 1) (by omega) _ (nb_lt x _) j hj, nib_bt (0 + 1 + 1 + 1 + 1 + 1) (by omega) _ (nb_lt x _) j hj]
  rcases (by omega : j / 4 = 0 ∨ j / 4 = 1 ∨ j / 4 = 2 ∨ j / 4 = 3 ∨ j / 4 = 4 ∨ j / 4 = 5 ∨ 24 ≤ j) with e | e | e | e | e | e | e
  · rw [e] at tb
    have r : j - 4 * 0 = j % 4 := by omega
    rw [decide_eq_true (show 4 * 0 ≤ j by omega), decide_eq_true (show j < 4 * 0 + 4 by omega), decide_eq_false (show ¬ 4 * (0 + 1) ≤ j by omega), decide_eq_false (show ¬ 4 * (0 + 1 + 1) ≤ j by omega), decide_eq_false (show ¬ 4 * (0 + 1 + 1 + 1) ≤ j by omega), decide_eq_false (show ¬ 4 * (0 + 1 + 1 + 1 + 1) ≤ j by omega), decide_eq_false (show ¬ 4 * (0 + 1 + 1 + 1 + 1 + 1) ≤ j by omega), r, tb]; simp
  · rw [e] at tb
    have r : j - 4 * (0 + 1) = j % 4 := by omega
    rw [decide_eq_false (show ¬ j < 4 * 0 + 4 by omega), decide_eq_true (show 4 * (0 + 1) ≤ j by omega), decide_eq_true (show j < 4 * (0 + 1) + 4 by omega), decide_eq_false (show ¬ 4 * (0 + 1 + 1) ≤ j by omega), decide_eq_false (show ¬ 4 * (0 + 1 + 1 + 1) ≤ j by omega), decide_eq_false (show ¬ 4 * (0 + 1 + 1 + 1 + 1) ≤ j by omega), decide_eq_false (show ¬ 4 * (0 + 1 + 1 + 1 + 1 + 1) ≤ j by omega), r, tb]; simp
  · rw [e] at tb
    have r : j - 4 * (0 + 1 + 1) = j % 4 := by omega
    rw [decide_eq_false (show ¬ j < 4 * 0 + 4 by omega), decide_eq_false (show ¬ j < 4 * (0 + 1) + 4 by omega), decide_eq_true (show 4 * (0 + 1 + 1) ≤ j by omega), decide_eq_true (show j < 4 * (0 + 1 + 1) + 4 by omega), decide_eq_false (show ¬ 4 * (0 + 1 + 1 + 1) ≤ j by omega), decide_eq_false (show ¬ 4 * (0 + 1 + 1 + 1 + 1) ≤ j by omega), decide_eq_false (show ¬ 4 * (0 + 1 + 1 + 1 + 1 + 1) ≤ j by omega), r, tb]; simp
  · rw [e] at tb
    have r : j - 4 * (0 + 1 + 1 + 1) = j % 4 := by omega
    rw [decide_eq_false (show ¬ j < 4 * 0 + 4 by omega), decide_eq_false (show ¬ j < 4 * (0 + 1) + 4 by omega), decide_eq_false (show ¬ j < 4 * (0 + 1 + 1) + 4 by omega), decide_eq_true (show 4 * (0 + 1 + 1 + 1) ≤ j by omega), decide_eq_true (show j < 4 * (0 + 1 + 1 + 1) + 4 by omega), decide_eq_false (show ¬ 4 * (0 + 1 + 1 + 1 + 1) ≤ j by omega), decide_eq_false (show ¬ 4 * (0 + 1 + 1 + 1 + 1 + 1) ≤ j by omega), r, tb]; simp
  · rw [e] at tb
    have r : j - 4 * (0 + 1 + 1 + 1 + 1) = j % 4 := by omega
    rw [decide_eq_false (show ¬ j < 4 * 0 + 4 by omega), decide_eq_false (show ¬ j < 4 * (0 + 1) + 4 by omega), decide_eq_false (show ¬ j < 4 * (0 + 1 + 1) + 4 by omega), decide_eq_false (show ¬ j < 4 * (0 + 1 + 1 + 1) + 4 by omega), decide_eq_true (show 4 * (0 + 1 + 1 + 1 + 1) ≤ j by omega), decide_eq_true (show j < 4 * (0 + 1 + 1 + 1 + 1) + 4 by omega), decide_eq_false (show ¬ 4 * (0 + 1 + 1 + 1 + 1 + 1) ≤ j by omega), r, tb]; simp
  · rw [e] at tb
    have r : j - 4 * (0 + 1 + 1 + 1 + 1 + 1) = j % 4 := by omega
    rw [decide_eq_false (show ¬ j < 4 * 0 + 4 by omega), decide_eq_false (show ¬ j < 4 * (0 + 1) + 4 by omega), decide_eq_false (show ¬ j < 4 * (0 + 1 + 1) + 4 by omega), decide_eq_false (show ¬ j < 4 * (0 + 1 + 1 + 1) + 4 by omega), decide_eq_false (show ¬ j < 4 * (0 + 1 + 1 + 1 + 1) + 4 by omega), decide_eq_true (show 4 * (0 + 1 + 1 + 1 + 1 + 1) ≤ j by omega), decide_eq_true (show j < 4 * (0 + 1 + 1 + 1 + 1 + 1) + 4 by omega), r, tb]; simp
  · rw [h j e hj, decide_eq_false (show ¬ j < 4 * 0 + 4 by omega), decide_eq_false (show ¬ j < 4 * (0 + 1) + 4 by omega), decide_eq_false (show ¬ j < 4 * (0 + 1 + 1) + 4 by omega), decide_eq_false (show ¬ j < 4 * (0 + 1 + 1 + 1) + 4 by omega), decide_eq_false (show ¬ j < 4 * (0 + 1 + 1 + 1 + 1) + 4 by omega), decide_eq_false (show ¬ j < 4 * (0 + 1 + 1 + 1 + 1 + 1) + 4 by omega)]; simp
theorem bc_fin : ∀ a, a < 5 → ∀ b, b < 5 → ∀ c, c < 5 → ∀ e, e < 5 → ∀ f, f < 5 → ∀ g, g < 5 → bc5 (bc4 (bc3 (nI (a + 16 * b + 256 * c + 4096 * e + 65536 * f + 1048576 * g)))) = nI (a + b + c + e + f + g) := by decide +kernel
theorem bv_cnt (x : Int32) (k : Nat) : fa_cnt (fun j => bt x j) (k + 1) = fa_cnt (fun j => bt x j) k + bv x k := by
  unfold bv
  cases h : bt x k with
  | true => rw [fa_cnt_yes h]; rfl
  | false => rw [fa_cnt_no h]; rfl
theorem z_bitCount {w : ab_Wd} {d n nc ns : Nat} {I : Nat → Nat → Int32} {L : Nat → Nat → Int64} (hT : w.1.stackTraces = false) {x : Int32} (h : ∀ t, 24 ≤ t → t < 32 → bt x t = false) : ab_P w d mt_Integer_bitCount [.int x] I L n nc ns (nI (fa_cnt (fun j => bt x j) 24)) := by
  have key : bc5 (bc4 (bc3 (bc2 (bc1 x)))) = nI (fa_cnt (fun j => bt x j) 24) := by
    have h3 := (nbs_ok x 6 0 rfl).2.2
    rw [← nbs_eq h] at h3
    have p := fun i => nb_pop x i
    have q : ∀ i, pop4 (nb x i) < 5 := fun i => by
      have h0 := bv_le x (4 * i)
      have h1 := bv_le x (4 * i + 1)
      have h2 := bv_le x (4 * i + 2)
      have h3 := bv_le x (4 * i + 3)
      rw [p]; omega
    have e : pps x 0 6 = pop4 (nb x 0) + 16 * pop4 (nb x 1) + 256 * pop4 (nb x 2) + 4096 * pop4 (nb x 3) + 65536 * pop4 (nb x 4) + 1048576 * pop4 (nb x 5) := by
      simp only [pps, Nat.zero_add, Nat.reduceAdd, Nat.reducePow]; omega
    rw [h3, e, bc_fin _ (q 0) _ (q 1) _ (q 2) _ (q 3) _ (q 4) _ (q 5)]
    rw [p, p, p, p, p, p]
    simp only [bv_cnt, show fa_cnt (fun j => bt x j) 0 = 0 from rfl, Nat.mul_zero, Nat.zero_add, Nat.reduceMul, Nat.reduceAdd]
    congr 1
    omega
  refine ab_C_of (by decide) rfl (Nat.le_of_ble_eq_true rfl) hT ?_
  refine r_Integer_bitCount_0 hT _ (Nat.le_refl _) (Nat.le_refl _) ?_
  rw [← key]; rfl
