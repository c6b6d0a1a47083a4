/-! THE CLASS: cables, ways -/
def kC (I : Nat → Nat → Int32) (S N : Nat) (sd : Nat → Bool) (e1 e2 pr fm : Nat → Nat) (l : List Nat) : Prop :=
  gr_pre I kx_now_cables kx_now_cables_first kx_now_cables_second kx_now_cables_price kx_now_cables_order S N e1 e2 pr l ∧ od pr N l ∧ 2 ≤ S ∧ (∀ k, k < 32 → bt (I kx_now_cables 2) k = sd k) ∧ (∀ k, sd k = true → k < N) ∧ ∀ k, k < N → I kx_now_cables_firm k = nI (fm k) ∧ fm k < 4 ∧ 1 ≤ pr k ∧ e1 k ≠ e2 k
/-- what link writes -/
def lk_m (I : Nat → Nat → Int32) (t b : Nat) (v h s1 s2 c : Int32) : Nat → Nat → Int32 := ab_up (ab_up (ab_up (ab_up (ab_up (ab_up (ab_up (ab_up I kx_ways_span t v) kx_ways_span b v) kx_ways_hops t h) kx_ways_hops b h) kx_ways_step t s1) kx_ways_step b s2) kx_ways_dearest t c) kx_ways_dearest b c
section KTR
variable {w : ab_Wd} {d n nc ns : Nat} {I : Nat → Nat → Int32} {L : Nat → Nat → Int64}
variable {S N : Nat} {sd : Nat → Bool} {e1 e2 pr fm : Nat → Nat} {l : List Nat}
theorem k_link (hT : w.1.stackTraces = false) {c x y : Nat} (hS : S ≤ 10) (hN : N ≤ 24) (hc : c < N) (f1 : I kx_now_cables_first c = nI (e1 c)) (f2 : I kx_now_cables_second c = nI (e2 c)) (f3 : I kx_now_cables_price c = nI (pr c)) (b1 : e1 c < S) (b2 : e2 c < S) (hx : x < S) (hy : y < S) (hxy : x ≠ y) :
    ab_U w (d + 1) mt_Ways_link [.ref kx_ways, .ref kx_now_cables, .int (nI c), .int (nI x), .int (nI y)] I L n nc ns (lk_m I (x * 10 + y) (y * 10 + x) (I kx_ways_span (x * 10 + e1 c) + nI (pr c) + I kx_ways_span (e2 c * 10 + y)) (I kx_ways_hops (x * 10 + e1 c) + 1 + I kx_ways_hops (e2 c * 10 + y)) (if x = e1 c then nI c else I kx_ways_step (x * 10 + e1 c)) (if y = e2 c then nI c else I kx_ways_step (y * 10 + e2 c)) (nI c)) := by
  unfold lk_m
  refine ab_C_of (by decide) rfl (Nat.le_of_ble_eq_true rfl) hT ?_
  refine r_Ways_link_0 hT _ _ _ (Nat.le_refl _) (Nat.le_refl _) ?_
  by_cases h1 : x = e1 c
  · by_cases h2 : y = e2 c
    · rw [if_pos h1, if_pos h2]
      simp (disch := first | omega | decide) only [f1, f2, f3, h1, h2, nl_add1, nl_add2, nl_mul1, nl_mul2, nl_sub1, nl_lt1, nl_lt2, nl_le1, nl_le2, nl_eq1, nl_eq2, nl_m1, nl_m2, nl_inT, nI_add, nI_mul, nI_leI, nI_ltI, nI_eq, nI_clamp, nl_bit, oI_n, oI_s, oI_m1, true_and, and_true, eq_self, Bool.false_eq_true, not_false_eq_true, not_true_eq_false, false_implies, true_implies, implies_true, forall_const, Nat.not_lt_zero, ab_row_eq, ab_row_ne, ab_up_i, ab_up_o, pk_us, pk_un, ab_row_row]
    · rw [if_pos h1, if_neg h2]
      simp (disch := first | omega | decide) only [f1, f2, f3, h1, h2, nl_add1, nl_add2, nl_mul1, nl_mul2, nl_sub1, nl_lt1, nl_lt2, nl_le1, nl_le2, nl_eq1, nl_eq2, nl_m1, nl_m2, nl_inT, nI_add, nI_mul, nI_leI, nI_ltI, nI_eq, nI_clamp, nl_bit, oI_n, oI_s, oI_m1, true_and, and_true, eq_self, Bool.false_eq_true, not_false_eq_true, not_true_eq_false, false_implies, true_implies, implies_true, forall_const, Nat.not_lt_zero, ab_row_eq, ab_row_ne, ab_up_i, ab_up_o, pk_us, pk_un, ab_row_row]
  · by_cases h2 : y = e2 c
    · rw [if_neg h1, if_pos h2]
      simp (disch := first | omega | decide) only [f1, f2, f3, h1, h2, nl_add1, nl_add2, nl_mul1, nl_mul2, nl_sub1, nl_lt1, nl_lt2, nl_le1, nl_le2, nl_eq1, nl_eq2, nl_m1, nl_m2, nl_inT, nI_add, nI_mul, nI_leI, nI_ltI, nI_eq, nI_clamp, nl_bit, oI_n, oI_s, oI_m1, true_and, and_true, eq_self, Bool.false_eq_true, not_false_eq_true, not_true_eq_false, false_implies, true_implies, implies_true, forall_const, Nat.not_lt_zero, ab_row_eq, ab_row_ne, ab_up_i, ab_up_o, pk_us, pk_un, ab_row_row]
    · rw [if_neg h1, if_neg h2]
      simp (disch := first | omega | decide) only [f1, f2, f3, h1, h2, nl_add1, nl_add2, nl_mul1, nl_mul2, nl_sub1, nl_lt1, nl_lt2, nl_le1, nl_le2, nl_eq1, nl_eq2, nl_m1, nl_m2, nl_inT, nI_add, nI_mul, nI_leI, nI_ltI, nI_eq, nI_clamp, nl_bit, oI_n, oI_s, oI_m1, true_and, and_true, eq_self, Bool.false_eq_true, not_false_eq_true, not_true_eq_false, false_implies, true_implies, implies_true, forall_const, Nat.not_lt_zero, ab_row_eq, ab_row_ne, ab_up_i, ab_up_o, pk_us, pk_un, ab_row_row]
end KTR
