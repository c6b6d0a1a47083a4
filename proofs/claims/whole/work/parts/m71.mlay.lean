/-! LAY: the model's row; the old net under the new names -/
section MLY
variable {w : ab_Wd} {d n nc ns : Nat} {I : Nat → Nat → Int32} {L : Nat → Nat → Int64}
variable {S N : Nat} {sd : Nat → Bool} {e1 e2 pr fm : Nat → Nat} {l : List Nat}
theorem mC_add (hm : mC I S N sd e1 e2 pr fm l) {a b v f : Nat} (hN : N < 24) (ha : a < S) (hb : b < S) (hab : a ≠ b) (h1 : 1 ≤ v) (h9 : v ≤ 999) (hf : f < 4) {l' : List Nat} (hl : od (un pr N v) (N + 1) l') {I' : Nat → Nat → Int32} (hI : I' = ab_up (ab_up (ab_up (ab_up (ab_up (ab_up I mx_now (3 + N) (nI a)) mx_now (27 + N) (nI b)) mx_now (51 + N) (nI v)) mx_now (75 + N) (nI f)) mx_now 1 ((I mx_now 1) ||| ((1 : Int32) <<< (nI N &&& 31)))) mx_now 0 (nI (N + 1))) : mC I' S (N + 1) (un sd N true) (un e1 N a) (un e2 N b) (un pr N v) (un fm N f) l' ∧ mar I' I ∧ ∀ j, (j = 2 ∨ 99 ≤ j) → I' mx_now j = I mx_now j := by
  obtain ⟨⟨p1, p2, p3, p4, p5, p6⟩, m2, m3, m4, m5⟩ := hm
  have rd : ∀ j, I' mx_now j = upd (upd (upd (upd (upd (upd (I mx_now) (3 + N) (nI a)) (27 + N) (nI b)) (51 + N) (nI v)) (75 + N) (nI f)) 1 ((I mx_now 1) ||| ((1 : Int32) <<< (nI N &&& 31)))) 0 (nI (N + 1)) j := fun j => by
    rw [hI, ab_up_i, ab_up_i, ab_up_i, ab_up_i, ab_up_i, ab_up_i]
  have r0 : I' mx 2 = I mx 2 := by rw [hI]; simp (disch := first | omega | decide) only [nl_add1, nl_add2, nl_mul1, nl_mul2, nl_sub1, nl_lt1, nl_lt2, nl_le1, nl_le2, nl_eq1, nl_eq2, nl_m1, nl_m2, nl_inT, nI_add, nI_mul, nI_leI, nI_ltI, nI_eq, nI_clamp, nl_bit, oI_n, oI_s, oI_m1, true_and, and_true, eq_self, Bool.false_eq_true, not_false_eq_true, not_true_eq_false, false_implies, true_implies, implies_true, forall_const, Nat.not_lt_zero, ab_row_eq, ab_row_ne, ab_up_i, ab_up_o, pk_us, pk_un, ab_row_row]
  refine ⟨⟨⟨by rw [r0]; exact p1, by rw [rd, pk_us], p3, by omega, hl, fun j hj => ?_⟩, m2, fun j hj => ?_, fun j hj => ?_, fun j hj => ?_⟩, ?_, fun j hj => ?_⟩
  · by_cases e : j = N
    · subst e
      rw [un_s, un_s, un_s]
      refine ⟨?_, ?_, ?_, ha, hb, h9⟩
      · rw [rd, pk_un (by omega), pk_un (by omega), pk_un (by omega), pk_un (by omega), pk_un (by omega), pk_us]
      · rw [rd, pk_un (by omega), pk_un (by omega), pk_un (by omega), pk_un (by omega), pk_us]
      · rw [rd, pk_un (by omega), pk_un (by omega), pk_un (by omega), pk_us]
    · rw [un_o e, un_o e, un_o e]
      obtain ⟨q1, q2, q3, q4, q5, q6⟩ := p6 j (by omega)
      refine ⟨?_, ?_, ?_, q4, q5, q6⟩
      · rw [rd, pk_un (by omega), pk_un (by omega), pk_un (by omega), pk_un (by omega), pk_un (by omega), pk_un (by omega)]; exact q1
      · rw [rd, pk_un (by omega), pk_un (by omega), pk_un (by omega), pk_un (by omega), pk_un (by omega), pk_un (by omega)]; exact q2
      · rw [rd, pk_un (by omega), pk_un (by omega), pk_un (by omega), pk_un (by omega), pk_un (by omega), pk_un (by omega)]; exact q3
  · rw [rd, pk_un (by omega), pk_us, b_or, m3 j hj, ab_sh1 (by omega) hj]
    by_cases e : j = N
    · rw [e, un_s, decide_eq_true rfl, Bool.or_true]
    · rw [un_o e, decide_eq_false e, Bool.or_false]
  · by_cases e : j = N
    · omega
    · rw [un_o e] at hj; have := m4 j hj; omega
  · by_cases e : j = N
    · subst e
      rw [un_s, un_s, un_s, un_s]
      refine ⟨?_, hf, h1, hab⟩
      rw [rd, pk_un (by omega), pk_un (by omega), pk_us]
    · rw [un_o e, un_o e, un_o e, un_o e]
      obtain ⟨q1, q2, q3, q4⟩ := m5 j (by omega)
      refine ⟨?_, q2, q3, q4⟩
      rw [rd, pk_un (by omega), pk_un (by omega), pk_un (by omega), pk_un (by omega), pk_un (by omega), pk_un (by omega)]; exact q1
  · rw [hI]
    exact mar_up (mar_up (mar_up (mar_up (mar_up (mar_up ⟨fun _ _ _ => rfl, fun _ _ => rfl⟩)))))
  · rw [rd, pk_un (by omega), pk_un (by omega), pk_un (by omega), pk_un (by omega), pk_un (by omega), pk_un (by omega)]
/-- the acts that were kept speak of the cables of then -/
theorem aX_add {h : Nat → Nat → Nat} {E m : Nat} {ac : Nat → Ac} {rr : Nat → Nat → Int32} {a b f : Nat} (hx : aX N e1 e2 fm h E m ac rr) : aX (N + 1) (un e1 N a) (un e2 N b) (un fm N f) h E m ac rr := by
  refine ⟨fun i hi => ?_, hx.2.1, hx.2.2⟩
  obtain ⟨⟨x1, x2, x3, x4, x5⟩, x6, x7⟩ := hx.1 i hi
  refine ⟨⟨x1, x2, x3, fun k hk => ?_, x5⟩, by omega, x7⟩
  rw [un_o (by omega), un_o (by omega), un_o (by omega)]
  exact x4 k hk
/-- swaps told since then change nothing for the kept acts -/
theorem mH_cong {f : Nat → Int32} {E : Nat} {h h' : Nat → Nat → Nat} (hH : mH f E h) (e : ∀ j, j < E → h' j = h j) : mH f E h' := ⟨hH.1, fun j h7 h8 q hq => by rw [e j h7]; exact hH.2 j h7 h8 q hq⟩
theorem nxH_old {A B : Nat → Bool} {why k tot E : Nat} {h : Nat → Nat → Nat} : ∀ j, j < E → nxH A B why k tot E h j = h j := fun j hj => by
  by_cases e : ∀ j, A j = B j
  · rw [(nx_t e).2]
  · rw [(nx_f e).2]; exact if_neg (by omega)
theorem nxE_le {A B : Nat → Bool} {E : Nat} : E ≤ nxE A B E ∧ nxE A B E ≤ E + 1 := by
  by_cases e : ∀ j, A j = B j
  · rw [(nx_t (why := 0) (k := 0) (tot := 0) (h := fun _ _ => 0) e).1]; omega
  · rw [(nx_f (why := 0) (k := 0) (tot := 0) (h := fun _ _ => 0) e).1]; omega
end MLY
