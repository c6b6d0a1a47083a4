/-! THE CLASS: the ways are traced -/
theorem pth_rev {e1 e2 : Nat → Nat} {T : List Nat} {x y : Nat} {p : List Nat} (hf : fo e1 e2 T) (h : pth e1 e2 T x y = some p) : pth e1 e2 T y x = some p.reverse := pth_some hf (pt_rev (pth_pt h))
theorem pth_cn {e1 e2 : Nat → Nat} {T : List Nat} {x y : Nat} : (∃ p, pth e1 e2 T x y = some p) ↔ cn e1 e2 (fun k => k ∈ T) x y := by
  constructor
  · rintro ⟨p, hp⟩; exact pt_cn (pth_pt hp)
  · intro h
    cases hp : pth e1 e2 T x y with
    | some p => exact ⟨p, rfl⟩
    | none =>
      exfalso
      unfold pth at hp
      obtain ⟨p, hq⟩ := pt_ex h
      rw [dif_pos ⟨p, hq⟩] at hp
      cases hp
theorem pth_none_cn {e1 e2 : Nat → Nat} {T : List Nat} {x y : Nat} : pth e1 e2 T x y = none ↔ ¬ cn e1 e2 (fun k => k ∈ T) x y := by
  constructor
  · intro h g
    obtain ⟨p, hp⟩ := pth_cn.mpr g
    rw [h] at hp; cases hp
  · exact pth_none
theorem pth_up {e1 e2 : Nat → Nat} {T : List Nat} {c x y : Nat} {p : List Nat} (hf : fo e1 e2 (c :: T)) (h : pth e1 e2 T x y = some p) : pth e1 e2 (c :: T) x y = some p := pth_some hf (Or.inl (pth_pt h))
theorem pth_mid {e1 e2 : Nat → Nat} {T : List Nat} {c x y : Nat} {p q : List Nat} (hf : fo e1 e2 (c :: T)) (h : pth e1 e2 T x (e1 c) = some p) (g : pth e1 e2 T (e2 c) y = some q) : pth e1 e2 (c :: T) x y = some (p ++ c :: q) := pth_some hf (Or.inr ⟨p, q, rfl, Or.inl ⟨pth_pt h, pth_pt g⟩⟩)
theorem pth_self {e1 e2 : Nat → Nat} {T : List Nat} {x : Nat} (hf : fo e1 e2 T) : pth e1 e2 T x x = some [] := pth_some hf pt_self
def wS (pr : Nat → Nat) (o : Option (List Nat)) : Int32 := match o with
  | none => -1
  | some p => nI (p.map pr).sum
def wH (o : Option (List Nat)) : Int32 := match o with
  | none => -1
  | some p => nI p.length
def wF (o : Option (List Nat)) : Int32 := match o with
  | none => -1
  | some [] => -1
  | some (k :: _) => nI k
noncomputable def wD (pr : Nat → Nat) (o : Option (List Nat)) : Int32 := match o with
  | none => -1
  | some [] => -1
  | some (k :: p) => nI (dmx pr (k :: p))
def wyA (pr : Nat → Nat) (J : Nat → Nat → Int32) (x y : Nat) (o : Option (List Nat)) : Prop := J kx_ways_span (x * 10 + y) = wS pr o ∧ J kx_ways_hops (x * 10 + y) = wH o ∧ J kx_ways_step (x * 10 + y) = wF o ∧ J kx_ways_dearest (x * 10 + y) = wD pr o
def wyC (e1 e2 pr : Nat → Nat) (S : Nat) (T : List Nat) (J : Nat → Nat → Int32) : Prop := ∀ x y, x < S → y < S → wyA pr J x y (pth e1 e2 T x y)
/-- what the ways leave as it is -/
def wfr (J I : Nat → Nat → Int32) : Prop := ∀ a, a ≠ kx_ways_span → a ≠ kx_ways_hops → a ≠ kx_ways_step → a ≠ kx_ways_dearest → J a = I a
theorem wfr_trans {K J I : Nat → Nat → Int32} (h : wfr K J) (g : wfr J I) : wfr K I := fun a h1 h2 h3 h4 => (h a h1 h2 h3 h4).trans (g a h1 h2 h3 h4)
theorem lk_fr {I : Nat → Nat → Int32} {t b : Nat} {v h s1 s2 c : Int32} : wfr (lk_m I t b v h s1 s2 c) I := fun a h1 h2 h3 h4 => by
  unfold lk_m
  rw [ab_up_o h4, ab_up_o h4, ab_up_o h3, ab_up_o h3, ab_up_o h2, ab_up_o h2, ab_up_o h1, ab_up_o h1]
theorem lk_sp {I : Nat → Nat → Int32} {t b : Nat} {v h s1 s2 c : Int32} (k : Nat) : lk_m I t b v h s1 s2 c kx_ways_span k = if k = b then v else if k = t then v else I kx_ways_span k := by
  unfold lk_m
  rw [ab_up_o (by decide), ab_up_o (by decide), ab_up_o (by decide), ab_up_o (by decide), ab_up_o (by decide), ab_up_o (by decide), ab_up_i, ab_up_i]
  by_cases e : k = b
  · rw [if_pos e, e, pk_us]
  · rw [if_neg e, pk_un e]
    by_cases e' : k = t
    · rw [if_pos e', e', pk_us]
    · rw [if_neg e', pk_un e']
theorem lk_ho {I : Nat → Nat → Int32} {t b : Nat} {v h s1 s2 c : Int32} (k : Nat) : lk_m I t b v h s1 s2 c kx_ways_hops k = if k = b then h else if k = t then h else I kx_ways_hops k := by
  unfold lk_m
  rw [ab_up_o (by decide), ab_up_o (by decide), ab_up_o (by decide), ab_up_o (by decide), ab_up_i, ab_up_i, ab_up_o (by decide), ab_up_o (by decide)]
  by_cases e : k = b
  · rw [if_pos e, e, pk_us]
  · rw [if_neg e, pk_un e]
    by_cases e' : k = t
    · rw [if_pos e', e', pk_us]
    · rw [if_neg e', pk_un e']
theorem lk_st {I : Nat → Nat → Int32} {t b : Nat} {v h s1 s2 c : Int32} (k : Nat) : lk_m I t b v h s1 s2 c kx_ways_step k = if k = b then s2 else if k = t then s1 else I kx_ways_step k := by
  unfold lk_m
  rw [ab_up_o (by decide), ab_up_o (by decide), ab_up_i, ab_up_i, ab_up_o (by decide), ab_up_o (by decide), ab_up_o (by decide), ab_up_o (by decide)]
  by_cases e : k = b
  · rw [if_pos e, e, pk_us]
  · rw [if_neg e, pk_un e]
    by_cases e' : k = t
    · rw [if_pos e', e', pk_us]
    · rw [if_neg e', pk_un e']
theorem lk_de {I : Nat → Nat → Int32} {t b : Nat} {v h s1 s2 c : Int32} (k : Nat) : lk_m I t b v h s1 s2 c kx_ways_dearest k = if k = b then c else if k = t then c else I kx_ways_dearest k := by
  unfold lk_m
  rw [ab_up_i, ab_up_i, ab_up_o (by decide), ab_up_o (by decide), ab_up_o (by decide), ab_up_o (by decide), ab_up_o (by decide), ab_up_o (by decide)]
  by_cases e : k = b
  · rw [if_pos e, e, pk_us]
  · rw [if_neg e, pk_un e]
    by_cases e' : k = t
    · rw [if_pos e', e', pk_us]
    · rw [if_neg e', pk_un e']
theorem wD_mid {pr : Nat → Nat} {p q : List Nat} {c : Nat} (hp : ∀ k ∈ p, ch pr k c) (hq : ∀ k ∈ q, ch pr k c) : wD pr (some (p ++ c :: q)) = nI c := by
  have h : dst pr (p ++ c :: q) c := ⟨List.mem_append_right _ List.mem_cons_self, fun j hj => by
    rcases List.mem_append.mp hj with h | h
    · exact Or.inr (hp j h)
    · rcases List.mem_cons.mp h with h | h
      · exact Or.inl h
      · exact Or.inr (hq j h)⟩
  cases hpq : p ++ c :: q with
  | nil => simp at hpq
  | cons k r =>
    show nI (dmx pr (k :: r)) = nI c
    rw [← hpq, dmx_eq h]
theorem wF_mid {p q : List Nat} {c : Nat} : wF (some (p ++ c :: q)) = if p = [] then nI c else wF (some p) := by
  cases p with
  | nil => rfl
  | cons k p => rfl
section KTS
variable {w : ab_Wd} {d n nc ns : Nat} {I : Nat → Nat → Int32} {L : Nat → Nat → Int64}
variable {S N : Nat} {sd : Nat → Bool} {e1 e2 pr fm : Nat → Nat} {l : List Nat}
/-- one link -/
theorem lk_ok {T : List Nat} {c x y : Nat} {p q : List Nat} {J : Nat → Nat → Int32} (hf : fo e1 e2 (c :: T)) (hch : ∀ k ∈ T, ch pr k c) (hx : x < S) (hy : y < S) (hS : S ≤ 10) (h1 : pth e1 e2 T x (e1 c) = some p) (h2 : pth e1 e2 T (e2 c) y = some q)
    (r1 : wyA pr J x (e1 c) (some p)) (r2 : wyA pr J (e2 c) y (some q)) (r3 : wyA pr J y (e2 c) (some q.reverse)) :
    wyA pr (lk_m J (x * 10 + y) (y * 10 + x) (J kx_ways_span (x * 10 + e1 c) + nI (pr c) + J kx_ways_span (e2 c * 10 + y)) (J kx_ways_hops (x * 10 + e1 c) + 1 + J kx_ways_hops (e2 c * 10 + y)) (if x = e1 c then nI c else J kx_ways_step (x * 10 + e1 c)) (if y = e2 c then nI c else J kx_ways_step (y * 10 + e2 c)) (nI c)) x y (pth e1 e2 (c :: T) x y) ∧
    wyA pr (lk_m J (x * 10 + y) (y * 10 + x) (J kx_ways_span (x * 10 + e1 c) + nI (pr c) + J kx_ways_span (e2 c * 10 + y)) (J kx_ways_hops (x * 10 + e1 c) + 1 + J kx_ways_hops (e2 c * 10 + y)) (if x = e1 c then nI c else J kx_ways_step (x * 10 + e1 c)) (if y = e2 c then nI c else J kx_ways_step (y * 10 + e2 c)) (nI c)) y x (pth e1 e2 (c :: T) y x) ∧
    ∀ a b, a < S → b < S → ¬ (a = x ∧ b = y) → ¬ (a = y ∧ b = x) → ∀ o, wyA pr J a b o → wyA pr (lk_m J (x * 10 + y) (y * 10 + x) (J kx_ways_span (x * 10 + e1 c) + nI (pr c) + J kx_ways_span (e2 c * 10 + y)) (J kx_ways_hops (x * 10 + e1 c) + 1 + J kx_ways_hops (e2 c * 10 + y)) (if x = e1 c then nI c else J kx_ways_step (x * 10 + e1 c)) (if y = e2 c then nI c else J kx_ways_step (y * 10 + e2 c)) (nI c)) a b o := by
  have hpq := pth_mid hf h1 h2
  have hqp := pth_rev hf hpq
  have hxy : x ≠ y := by
    intro e
    subst e
    exact hf.2 (cn_trans (cn_symm (pt_cn (pth_pt h1))) (cn_symm (pt_cn (pth_pt h2))))
  have hmp : ∀ k ∈ p, ch pr k c := fun k hk => hch k (pt_mem (pth_pt h1) k hk).1
  have hmq : ∀ k ∈ q, ch pr k c := fun k hk => hch k (pt_mem (pth_pt h2) k hk).1
  have hx0 : x = e1 c ↔ p = [] := by
    constructor
    · intro e; rw [e] at h1; exact pt_uq hf.1 (pth_pt h1) pt_self
    · intro e; rw [e] at h1; exact pt_nil (pth_pt h1)
  have hy0 : y = e2 c ↔ q.reverse = [] := by
    constructor
    · intro e; rw [e] at h2; rw [pt_uq hf.1 (pth_pt h2) pt_self]; rfl
    · intro e; rw [List.reverse_eq_nil_iff] at e; rw [e] at h2; exact (pt_nil (pth_pt h2)).symm
  have es : J kx_ways_span (x * 10 + e1 c) + nI (pr c) + J kx_ways_span (e2 c * 10 + y) = nI ((p ++ c :: q).map pr).sum := by
    rw [r1.1, r2.1]
    show nI (p.map pr).sum + nI (pr c) + nI (q.map pr).sum = _
    rw [nI_add, nI_add, List.map_append, List.sum_append, List.map_cons, List.sum_cons, Nat.add_assoc]
  have eh : J kx_ways_hops (x * 10 + e1 c) + 1 + J kx_ways_hops (e2 c * 10 + y) = nI (p ++ c :: q).length := by
    rw [r1.2.1, r2.2.1]
    show nI p.length + 1 + nI q.length = _
    rw [nI_1, nI_add, List.length_append, List.length_cons]
    congr 1; omega
  have e1' : (if x = e1 c then nI c else J kx_ways_step (x * 10 + e1 c)) = wF (some (p ++ c :: q)) := by
    rw [wF_mid]
    by_cases e : p = []
    · rw [if_pos (hx0.mpr e), if_pos e]
    · rw [if_neg (fun g => e (hx0.mp g)), if_neg e, r1.2.2.1]
  have er : (p ++ c :: q).reverse = q.reverse ++ c :: p.reverse := by simp
  have e2' : (if y = e2 c then nI c else J kx_ways_step (y * 10 + e2 c)) = wF (some (p ++ c :: q).reverse) := by
    rw [er, wF_mid]
    by_cases e : q.reverse = []
    · rw [if_pos (hy0.mpr e), if_pos e]
    · rw [if_neg (fun g => e (hy0.mp g)), if_neg e, r3.2.2.1]
  have ed' : wD pr (some (p ++ c :: q)) = nI c := wD_mid hmp hmq
  have ed2 : wD pr (some (p ++ c :: q).reverse) = nI c := by
    rw [er]; exact wD_mid (fun k hk => hmq k (List.mem_reverse.mp hk)) (fun k hk => hmp k (List.mem_reverse.mp hk))
  have ss : ((p ++ c :: q).reverse.map pr).sum = ((p ++ c :: q).map pr).sum := by
    rw [List.map_reverse, List.sum_reverse_nat]
  have n1 : ¬ x * 10 + y = y * 10 + x := by omega
  rw [es, eh, e1', e2']
  refine ⟨?_, ?_, ?_⟩
  · rw [hpq]
    refine ⟨?_, ?_, ?_, ?_⟩
    · rw [lk_sp, if_neg n1, if_pos rfl]; rfl
    · rw [lk_ho, if_neg n1, if_pos rfl]; rfl
    · rw [lk_st, if_neg n1, if_pos rfl]
    · rw [lk_de, if_neg n1, if_pos rfl, ed']
  · rw [hqp]
    refine ⟨?_, ?_, ?_, ?_⟩
    · rw [lk_sp, if_pos rfl]
      show _ = nI ((p ++ c :: q).reverse.map pr).sum
      rw [ss]
    · rw [lk_ho, if_pos rfl]
      show _ = nI (p ++ c :: q).reverse.length
      rw [List.length_reverse]
    · rw [lk_st, if_pos rfl]
    · rw [lk_de, if_pos rfl, ed2]
  · intro a b ha hb g1 g2 o ho
    have m1 : ¬ a * 10 + b = x * 10 + y := by omega
    have m2 : ¬ a * 10 + b = y * 10 + x := by omega
    refine ⟨?_, ?_, ?_, ?_⟩
    · rw [lk_sp, if_neg m2, if_neg m1]; exact ho.1
    · rw [lk_ho, if_neg m2, if_neg m1]; exact ho.2.1
    · rw [lk_st, if_neg m2, if_neg m1]; exact ho.2.2.1
    · rw [lk_de, if_neg m2, if_neg m1]; exact ho.2.2.2
theorem wS_none {T : List Nat} {x y : Nat} (h : ∀ p, pth e1 e2 T x y = some p → (p.map pr).sum < 2 ^ 31) : wS pr (pth e1 e2 T x y) = -1 ↔ ¬ cn e1 e2 (fun k => k ∈ T) x y := by
  cases hp : pth e1 e2 T x y with
  | none => exact ⟨fun _ => pth_none_cn.mp hp, fun _ => rfl⟩
  | some p =>
    refine ⟨fun e => absurd e (nI_m1 (h p hp)), fun g => absurd (pt_cn (pth_pt hp)) g⟩
theorem k_joinedWith (hT : w.1.stackTraces = false) {T : List Nat} {x : Nat} (hS : S ≤ 10) (hx : x < S) (h0 : I kx_ways 0 = nI S) (hw : wyC e1 e2 pr S T I) (hb : ∀ x y p, pth e1 e2 T x y = some p → (p.map pr).sum < 2 ^ 31) :
    ab_P w (d + 1) mt_Ways_joinedWith [.ref kx_ways, .int (nI x)] I L n nc ns (ab_mask S (fun s => cnB e1 e2 (fun k => k ∈ T) x s)) := by
  refine ab_C_of (by decide) rfl (Nat.le_of_ble_eq_true rfl) hT ?_
  refine r_Ways_joinedWith_0 hT _ (Nat.le_refl _) (Nat.le_refl _) ?_
  refine up_ind (N := S) (E := fun i => ab_E w (d + 1) mt_Ways_joinedWith 4 [.ref kx_ways, .int (nI x), .int (ab_mask i (fun s => cnB e1 e2 (fun k => k ∈ T) x s)), .int (nI i)] [] (I, L, ab_RR, n, nc, ns) (.inl (some (.int (ab_mask S (fun s => cnB e1 e2 (fun k => k ∈ T) x s)))), (I, L, ab_RR, n, nc, ns))) ?_ ?_ 0 (Nat.zero_le _)
  · refine r_Ways_joinedWith_4 hT _ _ _ (Nat.le_refl _) (Nat.le_refl _) ?_
    refine bb_t ?_ rfl
    rw [h0]; exact nI_le (Nat.le_refl _) (by omega)
  · intro i hi nx
    have hiN : ¬ S ≤ i := by omega
    have r1 := (hw x i hx hi).1
    have r2 := wS_none (pr := pr) (T := T) (x := x) (y := i) (hb x i)
    refine r_Ways_joinedWith_4 hT _ _ _ (Nat.le_refl _) (Nat.le_refl _) ?_
    simp (disch := first | omega | decide) only [h0, hiN, r1, r2, nl_add1, nl_add2, nl_mul1, nl_mul2, nl_sub1, nl_lt1, nl_lt2, nl_le1, nl_le2, nl_eq1, nl_eq2, nl_m1, nl_m2, nl_inT, nI_add, nI_mul, nI_leI, nI_ltI, nI_eq, nI_clamp, nl_bit, oI_n, oI_s, oI_m1, true_and, and_true, eq_self, Bool.false_eq_true, not_false_eq_true, not_true_eq_false, false_implies, true_implies, implies_true, forall_const, Nat.not_lt_zero, ab_row_eq, ab_row_ne, ab_up_i, ab_up_o, pk_us, pk_un, ab_row_row]
    refine ⟨fun e => ?_, fun e => ?_⟩
    · rw [ab_mask_not (fun g => e (cnB_iff.mp g))]; exact nx
    · rw [ab_mask_put (by omega) (cnB_iff.mpr (Classical.byContradiction fun g => e g))]; exact nx
end KTS
