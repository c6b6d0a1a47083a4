/-! LAY: one more cable, on each side -/
def un {α : Type} (f : Nat → α) (N : Nat) (x : α) : Nat → α := fun j => if j = N then x else f j
theorem un_s {α : Type} {f : Nat → α} {N : Nat} {x : α} : un f N x N = x := if_pos rfl
theorem un_o {α : Type} {f : Nat → α} {N j : Nat} {x : α} (h : j ≠ N) : un f N x j = f j := if_neg h
section LAY
variable {w : ab_Wd} {d n nc ns : Nat} {I : Nat → Nat → Int32} {L : Nat → Nat → Int64}
variable {S N : Nat} {sd : Nat → Bool} {e1 e2 pr fm : Nat → Nat} {l : List Nat}
theorem k_add (hT : w.1.stackTraces = false) (hc : kC I S N sd e1 e2 pr fm l) {a b v f : Nat} (hN : N < 24) (ha : a < S) (hb : b < S) (hab : a ≠ b) (h1 : 1 ≤ v) (h9 : v ≤ 999) (hf : f < 4) {I' : Nat → Nat → Int32} (hI : I' = ab_up (ab_up (ab_up (ab_up (ab_up (ab_up I kx_now_cables_first N (nI a)) kx_now_cables_second N (nI b)) kx_now_cables_price N (nI v)) kx_now_cables_firm N (nI f)) kx_now_cables 2 ((I kx_now_cables 2) ||| ((1 : Int32) <<< (nI N &&& 31)))) kx_now_cables 1 (nI (N + 1))) :
    ∃ g l', od (un pr N v) (N + 1) l' ∧ kC (ab_row I' kx_now_cables_order g) S (N + 1) (un sd N true) (un e1 N a) (un e2 N b) (un pr N v) (un fm N f) l' ∧ ab_U w d mt_Cables_sort [.ref kx_now_cables] I' L n nc ns (ab_row I' kx_now_cables_order g) := by
  obtain ⟨⟨p1, p2, p3, p4, p5, p6, p7, p8⟩, c2, c3, c4, c5, c6⟩ := hc
  have e1' : I' kx_now_cables_first = upd (I kx_now_cables_first) N (nI a) := by rw [hI]; simp (disch := first | omega | decide) only [nl_add1, nl_add2, nl_mul1, nl_mul2, nl_sub1, nl_lt1, nl_lt2, nl_le1, nl_le2, nl_eq1, nl_eq2, nl_m1, nl_m2, nl_inT, nI_add, nI_mul, nI_leI, nI_ltI, nI_eq, nI_clamp, nl_bit, oI_n, oI_s, oI_m1, true_and, and_true, eq_self, Bool.false_eq_true, not_false_eq_true, not_true_eq_false, false_implies, true_implies, implies_true, forall_const, Nat.not_lt_zero, ab_row_eq, ab_row_ne, ab_up_i, ab_up_o, pk_us, pk_un, ab_row_row]
  have e2' : I' kx_now_cables_second = upd (I kx_now_cables_second) N (nI b) := by rw [hI]; simp (disch := first | omega | decide) only [nl_add1, nl_add2, nl_mul1, nl_mul2, nl_sub1, nl_lt1, nl_lt2, nl_le1, nl_le2, nl_eq1, nl_eq2, nl_m1, nl_m2, nl_inT, nI_add, nI_mul, nI_leI, nI_ltI, nI_eq, nI_clamp, nl_bit, oI_n, oI_s, oI_m1, true_and, and_true, eq_self, Bool.false_eq_true, not_false_eq_true, not_true_eq_false, false_implies, true_implies, implies_true, forall_const, Nat.not_lt_zero, ab_row_eq, ab_row_ne, ab_up_i, ab_up_o, pk_us, pk_un, ab_row_row]
  have e3' : I' kx_now_cables_price = upd (I kx_now_cables_price) N (nI v) := by rw [hI]; simp (disch := first | omega | decide) only [nl_add1, nl_add2, nl_mul1, nl_mul2, nl_sub1, nl_lt1, nl_lt2, nl_le1, nl_le2, nl_eq1, nl_eq2, nl_m1, nl_m2, nl_inT, nI_add, nI_mul, nI_leI, nI_ltI, nI_eq, nI_clamp, nl_bit, oI_n, oI_s, oI_m1, true_and, and_true, eq_self, Bool.false_eq_true, not_false_eq_true, not_true_eq_false, false_implies, true_implies, implies_true, forall_const, Nat.not_lt_zero, ab_row_eq, ab_row_ne, ab_up_i, ab_up_o, pk_us, pk_un, ab_row_row]
  have e4' : I' kx_now_cables_firm = upd (I kx_now_cables_firm) N (nI f) := by rw [hI]; simp (disch := first | omega | decide) only [nl_add1, nl_add2, nl_mul1, nl_mul2, nl_sub1, nl_lt1, nl_lt2, nl_le1, nl_le2, nl_eq1, nl_eq2, nl_m1, nl_m2, nl_inT, nI_add, nI_mul, nI_leI, nI_ltI, nI_eq, nI_clamp, nl_bit, oI_n, oI_s, oI_m1, true_and, and_true, eq_self, Bool.false_eq_true, not_false_eq_true, not_true_eq_false, false_implies, true_implies, implies_true, forall_const, Nat.not_lt_zero, ab_row_eq, ab_row_ne, ab_up_i, ab_up_o, pk_us, pk_un, ab_row_row]
  have i0 : I' kx_now_cables 0 = nI S := by rw [hI]; simp (disch := first | omega | decide) only [p1, nl_add1, nl_add2, nl_mul1, nl_mul2, nl_sub1, nl_lt1, nl_lt2, nl_le1, nl_le2, nl_eq1, nl_eq2, nl_m1, nl_m2, nl_inT, nI_add, nI_mul, nI_leI, nI_ltI, nI_eq, nI_clamp, nl_bit, oI_n, oI_s, oI_m1, true_and, and_true, eq_self, Bool.false_eq_true, not_false_eq_true, not_true_eq_false, false_implies, true_implies, implies_true, forall_const, Nat.not_lt_zero, ab_row_eq, ab_row_ne, ab_up_i, ab_up_o, pk_us, pk_un, ab_row_row]
  have i1 : I' kx_now_cables 1 = nI (N + 1) := by rw [hI]; simp (disch := first | omega | decide) only [nl_add1, nl_add2, nl_mul1, nl_mul2, nl_sub1, nl_lt1, nl_lt2, nl_le1, nl_le2, nl_eq1, nl_eq2, nl_m1, nl_m2, nl_inT, nI_add, nI_mul, nI_leI, nI_ltI, nI_eq, nI_clamp, nl_bit, oI_n, oI_s, oI_m1, true_and, and_true, eq_self, Bool.false_eq_true, not_false_eq_true, not_true_eq_false, false_implies, true_implies, implies_true, forall_const, Nat.not_lt_zero, ab_row_eq, ab_row_ne, ab_up_i, ab_up_o, pk_us, pk_un, ab_row_row]
  have i2 : I' kx_now_cables 2 = (I kx_now_cables 2) ||| ((1 : Int32) <<< (nI N &&& 31)) := by rw [hI]; simp (disch := first | omega | decide) only [nl_add1, nl_add2, nl_mul1, nl_mul2, nl_sub1, nl_lt1, nl_lt2, nl_le1, nl_le2, nl_eq1, nl_eq2, nl_m1, nl_m2, nl_inT, nI_add, nI_mul, nI_leI, nI_ltI, nI_eq, nI_clamp, nl_bit, oI_n, oI_s, oI_m1, true_and, and_true, eq_self, Bool.false_eq_true, not_false_eq_true, not_true_eq_false, false_implies, true_implies, implies_true, forall_const, Nat.not_lt_zero, ab_row_eq, ab_row_ne, ab_up_i, ab_up_o, pk_us, pk_un, ab_row_row]
  have hp : ∀ j, j < N + 1 → I' kx_now_cables_price j = nI (un pr N v j) ∧ un pr N v j ≤ 999 := fun j hj => by
    rw [e3']
    by_cases e : j = N
    · rw [e, pk_us, un_s]; exact ⟨rfl, h9⟩
    · rw [pk_un e, un_o e]
      have q := p8 j (by omega)
      exact ⟨q.2.2.1, q.2.2.2.2.2⟩
  obtain ⟨g, l', g1, g2, g3, g4⟩ := s0_ok (d := d) (I := I') (w := w) (n := n) (nc := nc) (ns := ns) (L := L) hT i1 (by omega) hp
  refine ⟨g, l', g1, ⟨⟨?_, ?_, p3, by omega, od_len g1, fun i hi => ?_, fun j hj => (g1.2 j).mp hj, fun j hj => ?_⟩, g1, c3, fun j hj => ?_, fun j hj => ?_, fun j hj => ?_⟩, g4⟩
  · rw [ab_row_ne (by decide)]; exact i0
  · rw [ab_row_ne (by decide)]; exact i1
  · rw [ab_row_eq]; exact g2 i hi
  · rw [ab_row_ne (by decide), ab_row_ne (by decide), ab_row_ne (by decide)]
    refine ⟨?_, ?_, (hp j hj).1, ?_, ?_, (hp j hj).2⟩
    · rw [e1']
      by_cases e : j = N
      · rw [e, pk_us, un_s]
      · rw [pk_un e, un_o e]; exact (p8 j (by omega)).1
    · rw [e2']
      by_cases e : j = N
      · rw [e, pk_us, un_s]
      · rw [pk_un e, un_o e]; exact (p8 j (by omega)).2.1
    · by_cases e : j = N
      · rw [e, un_s]; exact ha
      · rw [un_o e]; exact (p8 j (by omega)).2.2.2.1
    · by_cases e : j = N
      · rw [e, un_s]; exact hb
      · rw [un_o e]; exact (p8 j (by omega)).2.2.2.2.1
  · rw [ab_row_ne (by decide), i2, b_or, c4 j hj, ab_sh1 (by omega) hj]
    by_cases e : j = N
    · rw [e, un_s, decide_eq_true rfl, Bool.or_true]
    · rw [un_o e, decide_eq_false e, Bool.or_false]
  · by_cases e : j = N
    · omega
    · rw [un_o e] at hj; have := c5 j hj; omega
  · rw [ab_row_ne (by decide), e4']
    by_cases e : j = N
    · rw [e, pk_us, un_s, un_s, un_s, un_s]; exact ⟨rfl, hf, h1, hab⟩
    · rw [pk_un e, un_o e, un_o e, un_o e, un_o e]; exact c6 j (by omega)
end LAY
