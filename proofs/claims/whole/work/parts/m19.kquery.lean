/-! THE CLASS: questions about THE NET -/
theorem pt_cnp {e1 e2 : Nat → Nat} : ∀ {T : List Nat} {x y : Nat} {p : List Nat}, pt e1 e2 T x y p → cn e1 e2 (fun k => k ∈ p) x y := by
  intro T
  induction T with
  | nil => intro x y p h; rw [h.1]; exact cn_refl
  | cons c T ih =>
    intro x y p h
    rcases h with h | ⟨p1, p2, e, ⟨h1, h2⟩ | ⟨h1, h2⟩⟩
    · exact ih h
    · rw [e]
      exact cn_trans (cn_trans (cn_mono (fun k hk => List.mem_append_left _ hk) (ih h1)) (cn_edge (List.mem_append_right _ List.mem_cons_self))) (cn_mono (fun k hk => List.mem_append_right _ (List.mem_cons_of_mem _ hk)) (ih h2))
    · rw [e]
      exact cn_trans (cn_trans (cn_mono (fun k hk => List.mem_append_left _ hk) (ih h1)) (cn_symm (cn_edge (List.mem_append_right _ List.mem_cons_self)))) (cn_mono (fun k hk => List.mem_append_right _ (List.mem_cons_of_mem _ hk)) (ih h2))
/-- a forest comes apart without one of its edges -/
theorem fo_cut {e1 e2 : Nat → Nat} : ∀ {T : List Nat} {k : Nat}, fo e1 e2 T → k ∈ T → ¬ cn e1 e2 (fun j => j ∈ T ∧ j ≠ k) (e1 k) (e2 k) := by
  intro T
  induction T with
  | nil => intro k _ h; cases h
  | cons c T ih =>
    intro k hf hk h
    rcases List.mem_cons.mp hk with e | hkT
    · subst e
      refine hf.2 (cn_mono (fun j hj => ?_) h)
      rcases List.mem_cons.mp hj.1 with e | hj'
      · exact absurd e hj.2
      · exact hj'
    · have hcT : c ∉ T := fun h => hf.2 (cn_edge h)
      have hck : c ≠ k := fun e => hcT (e ▸ hkT)
      have h' : cn e1 e2 (fun j => (j ∈ T ∧ j ≠ k) ∨ j = c) (e1 k) (e2 k) := cn_mono (fun j hj => by
        rcases List.mem_cons.mp hj.1 with e | hj'
        · exact Or.inr e
        · exact Or.inl ⟨hj', hj.2⟩) h
      have up : ∀ {u v}, cn e1 e2 (fun j => j ∈ T ∧ j ≠ k) u v → cn e1 e2 (fun j => j ∈ T) u v := fun h => cn_mono (fun j hj => hj.1) h
      have he : cn e1 e2 (fun j => j ∈ T) (e1 k) (e2 k) := cn_edge hkT
      rw [cn_add] at h'
      rcases h' with h' | ⟨g1, g2⟩ | ⟨g1, g2⟩
      · exact ih hf.1 hkT h'
      · exact hf.2 (cn_trans (cn_trans (cn_symm (up g1)) he) (cn_symm (up g2)))
      · exact hf.2 (cn_trans (cn_trans (up g2) (cn_symm he)) (up g1))
/-- what is in the cut of an edge: what the way to it doesn't begin with the edge -/
theorem cut_way {e1 e2 : Nat → Nat} {T : List Nat} {k s : Nat} (hf : fo e1 e2 T) (hk : k ∈ T) : cn e1 e2 (fun j => j ∈ T ∧ j ≠ k) (e1 k) s ↔ ∃ p, pth e1 e2 T (e1 k) s = some p ∧ p.head? ≠ some k := by
  constructor
  · intro h
    have hT : cn e1 e2 (fun j => j ∈ T) (e1 k) s := cn_mono (fun j hj => hj.1) h
    obtain ⟨p, hp⟩ := pth_cn.mpr hT
    refine ⟨p, hp, fun e => ?_⟩
    cases p with
    | nil => cases e
    | cons c q =>
      have ec : c = k := Option.some.inj e
      subst ec
      have hnd := pt_nodup hf (pth_pt hp)
      obtain ⟨b, hb, hq⟩ := pt_head (pth_pt hp)
      have hcq : c ∉ q := (List.nodup_cons.mp hnd).1
      have hqs : cn e1 e2 (fun j => j ∈ T ∧ j ≠ c) b s := cn_mono (fun j hj => ⟨(pt_mem hq j hj).1, fun e => hcq (e ▸ hj)⟩) (pt_cnp hq)
      have hcut := fo_cut hf hk
      rcases hb with ⟨-, hb⟩ | ⟨hb1, hb2⟩
      · rw [hb] at hqs
        exact hcut (cn_trans h (cn_symm hqs))
      · exact hcut (by rw [← hb1]; exact cn_refl)
  · rintro ⟨p, hp, hne⟩
    have hkp : k ∉ p := by
      rcases pt_edge hf hk (Or.inl ⟨rfl, rfl⟩) (pth_pt hp) with h | ⟨q, h, -⟩
      · exact (List.nodup_cons.mp (pt_nodup hf h)).1
      · rw [h] at hne; exact absurd rfl hne
    exact cn_mono (fun j hj => ⟨(pt_mem (pth_pt hp) j hj).1, fun e => hkp (e ▸ hj)⟩) (pt_cnp (pth_pt hp))
theorem wF_eq {o : Option (List Nat)} {k : Nat} (hk : k < 2 ^ 31) (h : ∀ p c q, o = some p → p = c :: q → c < 2 ^ 31) : wF o = nI k ↔ ∃ p, o = some p ∧ p.head? = some k := by
  match o, h with
  | none, _ => exact ⟨fun e => absurd e.symm (nI_m1 hk), fun ⟨p, e, _⟩ => by cases e⟩
  | some [], _ => exact ⟨fun e => absurd e.symm (nI_m1 hk), fun ⟨p, e, e'⟩ => by cases e; cases e'⟩
  | some (c :: q), h =>
    have hc := h _ c q rfl rfl
    constructor
    · intro e
      have : c = k := (nI_eq hc hk).mp e
      exact ⟨_, rfl, by rw [this]; rfl⟩
    · rintro ⟨p, e, e'⟩
      cases e
      have : c = k := Option.some.inj e'
      rw [this]; rfl
theorem nl_cross (x : Int32) {a b : Nat} (ha : a < 32) (hb : b < 32) : ((x >>> (nI a &&& 31)) &&& 1) = ((x >>> (nI b &&& 31)) &&& 1) ↔ bt x a = bt x b := by
  rw [ab_bit x ha, ab_bit x hb]
  cases bt x a <;> cases bt x b <;> simp
theorem nI_nm1 {a : Nat} (h : a < 2 ^ 31) : ¬ nI a < -1 := fun g => nI_pos h (fa_trans g (by decide))
theorem ab_max_m1 {a : Nat} (h : a < 2 ^ 31) : ab_max32 (nI a) (-1) = nI a := by
  unfold ab_max32
  rw [if_neg (nI_nm1 h)]
theorem mxf_ge {g : Nat → Nat} {j : Nat} : ∀ {k}, j < k → g j ≤ mxf g k := by
  intro k
  induction k with
  | zero => intro h; omega
  | succ k ih =>
    intro h
    rw [mxf]
    by_cases e : j = k
    · subst e; exact Nat.le_max_right _ _
    · exact Nat.le_trans (ih (by omega)) (Nat.le_max_left _ _)
theorem lgf_ge {g : Nat → Nat → Nat} {a b : Nat} (hb : b < a) : ∀ {k}, a < k → g a b ≤ lgf g k := by
  intro k
  induction k with
  | zero => intro h; omega
  | succ k ih =>
    intro h
    rw [lgf]
    by_cases e : a = k
    · subst e; exact Nat.le_trans (mxf_ge hb) (Nat.le_max_right _ _)
    · exact Nat.le_trans (ih (by omega)) (Nat.le_max_left _ _)
theorem lgf_mxf {g : Nat → Nat → Nat} {S : Nat} (hs : ∀ a b, g a b = g b a) (h0 : ∀ a, g a a = 0) : lgf g S = mxf (fun s => mxf (g s) S) S := by
  apply Nat.le_antisymm
  · have : ∀ k, k ≤ S → lgf g k ≤ mxf (fun s => mxf (g s) S) S := by
      intro k
      induction k with
      | zero => intro _; exact Nat.zero_le _
      | succ k ih =>
        intro hk
        rw [lgf]
        refine Nat.max_le.mpr ⟨ih (by omega), mxf_le (fun j hj => ?_)⟩
        exact Nat.le_trans (mxf_ge (g := g k) (k := S) (by omega)) (mxf_ge (g := fun s => mxf (g s) S) (k := S) (by omega))
    exact this S (Nat.le_refl _)
  · refine mxf_le (fun a ha => mxf_le (fun b hb => ?_))
    by_cases e : a = b
    · rw [e, h0]; exact Nat.zero_le _
    · by_cases h : b < a
      · exact lgf_ge h ha
      · rw [hs]; exact lgf_ge (by omega) hb
theorem spn_symm {e1 e2 pr : Nat → Nat} {T : List Nat} (hf : fo e1 e2 T) (x y : Nat) : spn e1 e2 pr T x y = spn e1 e2 pr T y x := by
  unfold spn
  cases h : pth e1 e2 T x y with
  | some p => rw [pth_rev hf h]; show _ = (p.reverse.map pr).sum; rw [List.map_reverse, List.sum_reverse_nat]
  | none =>
    have : pth e1 e2 T y x = none := pth_none (fun g => (pth_none_cn.mp h) (cn_symm g))
    rw [this]
theorem spn_self {e1 e2 pr : Nat → Nat} {T : List Nat} (hf : fo e1 e2 T) (x : Nat) : spn e1 e2 pr T x x = 0 := by
  unfold spn; rw [pth_self hf]; rfl
def kQ (I : Nat → Nat → Int32) (S N : Nat) (sd : Nat → Bool) (e1 e2 pr fm : Nat → Nat) (l : List Nat) : Prop := kC I S N sd e1 e2 pr fm l ∧ kN I S e1 e2 pr (kr e1 e2 (l.filter sd))
section KQU
variable {w : ab_Wd} {d n nc ns : Nat} {I : Nat → Nat → Int32} {L : Nat → Nat → Int64}
variable {S N : Nat} {sd : Nat → Bool} {e1 e2 pr fm : Nat → Nat} {l : List Nat}
theorem kq_fo (h : kQ I S N sd e1 e2 pr fm l) : fo e1 e2 (net e1 e2 sd l).reverse := (kp_net h.1.1 h.1.2.1 (by have := h.1.2.2.1; omega) sd).2.1
theorem kq_lt (h : kQ I S N sd e1 e2 pr fm l) {k : Nat} (hk : k ∈ net e1 e2 sd l) : k < N := (kp_net h.1.1 h.1.2.1 (by have := h.1.2.2.1; omega) sd).1 k hk
theorem kq_len (h : kQ I S N sd e1 e2 pr fm l) : (net e1 e2 sd l).length + 1 ≤ S := (kp_net h.1.1 h.1.2.1 (by have := h.1.2.2.1; omega) sd).2.2.2
theorem kq_sum (h : kQ I S N sd e1 e2 pr fm l) {x y : Nat} {p : List Nat} (hp : pth e1 e2 (net e1 e2 sd l).reverse x y = some p) : (p.map pr).sum < 2 ^ 31 := pt_sum (kq_fo h) (by have := kq_len h; have := h.1.1.2.2.1; rw [List.length_reverse]; omega) (fun k hk => (h.1.1.2.2.2.2.2.2.2 k (kq_lt h (List.mem_reverse.mp hk))).2.2.2.2.2) hp
theorem kq_w (h : kQ I S N sd e1 e2 pr fm l) : wyC e1 e2 pr S (net e1 e2 sd l).reverse I := h.2.2.2.2.2.2.2.2
theorem kq_bits (h : kQ I S N sd e1 e2 pr fm l) {k : Nat} (hk : k < 32) : bt (I kx_forest 2) k = decide (k ∈ net e1 e2 sd l) := h.2.2.1 k hk
theorem k_cutOf (hT : w.1.stackTraces = false) (hq : kQ I S N sd e1 e2 pr fm l) {k : Nat} (hk : k < N) : ab_P w (d + 2) mt_K_cutOf [.ref kx, .int (nI k)] I L n nc ns (ab_mask S (cutb e1 e2 S (net e1 e2 sd l) k)) := by
  obtain ⟨p1, p2, p3, p4, p5, p6, p7, p8⟩ := hq.1.1
  obtain ⟨u1, u2, u3, u4, u5, u6⟩ := p8 k hk
  have hb := kq_bits hq (k := k) (by omega)
  by_cases hkT : k ∈ net e1 e2 sd l
  · have hf := kq_fo hq
    have hkR : k ∈ (net e1 e2 sd l).reverse := List.mem_reverse.mpr hkT
    have hcut : ∀ s, s < S → (cutb e1 e2 S (net e1 e2 sd l) k s = true ↔ ∃ p, pth e1 e2 (net e1 e2 sd l).reverse (e1 k) s = some p ∧ p.head? ≠ some k) := fun s hs => by
      rw [← cut_way hf hkR]
      unfold cutb
      rw [Bool.and_eq_true, Bool.and_eq_true, decide_eq_true_iff, decide_eq_true_iff, cnB_iff]
      have : ∀ j, (j ∈ net e1 e2 sd l ∧ j ≠ k) ↔ (j ∈ (net e1 e2 sd l).reverse ∧ j ≠ k) := fun j => by rw [List.mem_reverse]
      rw [cn_congr this]
      exact ⟨fun h => h.2, fun h => ⟨⟨hkT, hs⟩, h⟩⟩
    refine ab_C_of (by decide) rfl (Nat.le_of_ble_eq_true rfl) hT ?_
    refine r_K_cutOf_0 hT _ (Nat.le_refl _) (Nat.le_refl _) ?_
    simp (disch := first | omega | decide) only [hb, hkT, decide_true, u1, nl_add1, nl_add2, nl_mul1, nl_mul2, nl_sub1, nl_lt1, nl_lt2, nl_le1, nl_le2, nl_eq1, nl_eq2, nl_m1, nl_m2, nl_inT, nI_add, nI_mul, nI_leI, nI_ltI, nI_eq, nI_clamp, nl_bit, oI_n, oI_s, oI_m1, true_and, and_true, eq_self, Bool.false_eq_true, not_false_eq_true, not_true_eq_false, false_implies, true_implies, implies_true, forall_const, Nat.not_lt_zero, ab_row_eq, ab_row_ne, ab_up_i, ab_up_o, pk_us, pk_un, ab_row_row]
    refine up_ind (N := S) (E := fun i => ab_E w (d + 2) mt_K_cutOf 28 [.ref kx, .int (nI k), .int (nI (e1 k)), .int (ab_mask i (cutb e1 e2 S (net e1 e2 sd l) k)), .int (nI i), .null] [] (I, L, ab_RR, n, nc, ns) (.inl (some (.int (ab_mask S (cutb e1 e2 S (net e1 e2 sd l) k)))), (I, L, ab_RR, n, nc, ns))) ?_ ?_ 0 (Nat.zero_le _)
    · refine r_K_cutOf_28 hT _ _ _ _ (Nat.le_refl _) (Nat.le_refl _) ?_
      refine bb_t ?_ rfl
      rw [p1]; exact nI_le (Nat.le_refl _) (by omega)
    · intro i hi nx
      have hiN : ¬ S ≤ i := by omega
      obtain ⟨a1, a2, a3, a4⟩ := kq_w hq (e1 k) i u4 hi
      have s1 := wS_none (pr := pr) (T := (net e1 e2 sd l).reverse) (x := e1 k) (y := i) (fun p hp => kq_sum hq hp)
      have s2 : wF (pth e1 e2 (net e1 e2 sd l).reverse (e1 k) i) = nI k ↔ ∃ p, pth e1 e2 (net e1 e2 sd l).reverse (e1 k) i = some p ∧ p.head? = some k := wF_eq (by omega) (fun p c q hp e => by
        rw [e] at hp
        have := kq_lt hq (List.mem_reverse.mp (pt_mem (pth_pt hp) c List.mem_cons_self).1)
        omega)
      have hci := hcut i hi
      rw [← pth_cn] at s1
      refine r_K_cutOf_28 hT _ _ _ _ (Nat.le_refl _) (Nat.le_refl _) ?_
      simp (disch := first | omega | decide) only [p1, hiN, a1, a3, s1, s2, nl_add1, nl_add2, nl_mul1, nl_mul2, nl_sub1, nl_lt1, nl_lt2, nl_le1, nl_le2, nl_eq1, nl_eq2, nl_m1, nl_m2, nl_inT, nI_add, nI_mul, nI_leI, nI_ltI, nI_eq, nI_clamp, nl_bit, oI_n, oI_s, oI_m1, true_and, and_true, eq_self, Bool.false_eq_true, not_false_eq_true, not_true_eq_false, false_implies, true_implies, implies_true, forall_const, Nat.not_lt_zero, ab_row_eq, ab_row_ne, ab_up_i, ab_up_o, pk_us, pk_un, ab_row_row]
      refine ⟨fun e => ?_, fun e => ⟨fun e' => ?_, fun e' => ?_⟩⟩
      · rw [ab_mask_not (fun g => ?_)]
        · exact nx
        · obtain ⟨p, hp, -⟩ := hci.mp g
          exact e ⟨p, hp⟩
      · rw [ab_mask_not (fun g => ?_)]
        · exact nx
        · obtain ⟨p, hp, h1⟩ := hci.mp g
          obtain ⟨p', hp', h2⟩ := e'
          rw [hp] at hp'
          cases hp'
          exact h1 h2
      · rw [ab_mask_put (by omega) (hci.mpr ?_)]
        · exact nx
        · obtain ⟨p, hp⟩ := Classical.not_not.mp e
          exact ⟨p, hp, fun h => e' ⟨p, hp, h⟩⟩
  · have : ab_mask S (cutb e1 e2 S (net e1 e2 sd l) k) = 0 := b_ext fun i hi => by
      rw [ab_mask_bt _ _ (by omega) i hi, b_0]
      unfold cutb
      simp [hkT]
    rw [this]
    refine ab_C_of (by decide) rfl (Nat.le_of_ble_eq_true rfl) hT ?_
    refine r_K_cutOf_0 hT _ (Nat.le_refl _) (Nat.le_refl _) ?_
    simp (disch := first | omega | decide) only [hb, hkT, decide_false, nl_add1, nl_add2, nl_mul1, nl_mul2, nl_sub1, nl_lt1, nl_lt2, nl_le1, nl_le2, nl_eq1, nl_eq2, nl_m1, nl_m2, nl_inT, nI_add, nI_mul, nI_leI, nI_ltI, nI_eq, nI_clamp, nl_bit, oI_n, oI_s, oI_m1, true_and, and_true, eq_self, Bool.false_eq_true, not_false_eq_true, not_true_eq_false, false_implies, true_implies, implies_true, forall_const, Nat.not_lt_zero, ab_row_eq, ab_row_ne, ab_up_i, ab_up_o, pk_us, pk_un, ab_row_row]
/-- the first of an ordered row is the cheapest -/
theorem chp_first {P : Nat → Prop} {A B : List Nat} {c : Nat} (hl : od pr N (A ++ c :: B)) (hP : ∀ x, P x → x < N) (hA : ∀ x ∈ A, ¬ P x) (hc : P c) : chp pr P (nI c) := by
  refine Or.inr ⟨c, rfl, hc, fun x hx => ?_⟩
  have hm := (hl.2 x).mpr (hP x hx)
  rcases List.mem_append.mp hm with h | h
  · exact absurd hx (hA x h)
  · rcases List.mem_cons.mp h with h | h
    · exact Or.inl h
    · have := hl.1
      rw [List.pairwise_append, List.pairwise_cons] at this
      exact Or.inr (this.2.1.1 x h)
theorem take_drop_at {p : List Nat} {i : Nat} (h : i < p.length) : p = p.take i ++ p.getD i 0 :: p.drop (i + 1) := by
  rw [List.getD_eq_getElem?_getD, List.getElem?_eq_getElem h, Option.getD_some, ← List.drop_eq_getElem_cons h, List.take_append_drop]
theorem k_rivalOf (hT : w.1.stackTraces = false) (hq : kQ I S N sd e1 e2 pr fm l) {k : Nat} (hk : k < N) : ∃ r, chp pr (rvc e1 e2 S N sd (net e1 e2 sd l) k) r ∧ ab_P w (d + 3) mt_K_rivalOf [.ref kx, .int (nI k)] I L n nc ns r := by
  have hcu := k_cutOf (w := w) (d := d) (n := n) (nc := nc) (ns := ns) (L := L) hT hq hk
  obtain ⟨p1, p2, p3, p4, p5, p6, p7, p8⟩ := hq.1.1
  obtain ⟨c2, c3, c4, c5, c6⟩ := hq.1.2
  obtain ⟨k1, k2, k3, k4, k5, k6⟩ := p8 k hk
  generalize hx : ab_mask S (cutb e1 e2 S (net e1 e2 sd l) k) = x at *
  have hxb : ∀ s, s < S → bt x s = cutb e1 e2 S (net e1 e2 sd l) k s := fun s hs => by
    rw [← hx, ab_mask_bt _ _ (by omega) s (by omega), decide_eq_true hs, Bool.true_and]
  have hx0 : k ∈ net e1 e2 sd l → ¬ x = 0 := fun hk' e => by
    have := hxb (e1 k) k4
    rw [e, b_0] at this
    unfold cutb at this
    rw [cnB_iff.mpr cn_refl] at this
    simp [hk', k4] at this
  have hx1 : ¬ x = 0 → k ∈ net e1 e2 sd l := fun hz => by
    refine Classical.byContradiction fun hk' => hz ?_
    rw [← hx]
    refine b_ext fun i hi => ?_
    rw [ab_mask_bt _ _ (by omega) i hi, b_0]
    unfold cutb
    simp [hk']
  by_cases hz : x = 0
  · refine ⟨-1, Or.inl ⟨rfl, fun y hy => hx0 hy.2.2.2.1 hz⟩, ?_⟩
    refine ab_C_of (by decide) rfl (Nat.le_of_ble_eq_true rfl) hT ?_
    refine r_K_rivalOf_0 hT _ (Nat.le_refl _) (Nat.le_refl _) ?_
    exact ⟨x, hcu, fun h => absurd hz h, fun _ => rfl⟩
  · have hkT := hx1 hz
    have loop : ∀ m i, i + m = N → (∀ y ∈ l.take i, ¬ rvc e1 e2 S N sd (net e1 e2 sd l) k y) → ∃ r, chp pr (rvc e1 e2 S N sd (net e1 e2 sd l) k) r ∧ ab_E w ((d + 2) + 1) mt_K_rivalOf 23 [.ref kx, .int (nI k), .int x, .ref kx_now_cables, .int (nI i), .null] [] (I, L, ab_RR, n, nc, ns) (.inl (some (.int r)), (I, L, ab_RR, n, nc, ns)) := by
      intro m
      induction m with
      | zero =>
        intro i hi hn
        rw [List.take_of_length_le (by omega)] at hn
        refine ⟨-1, Or.inl ⟨rfl, fun y hy => hn y ((c2.2 y).mpr hy.1) hy⟩, ?_⟩
        refine r_K_rivalOf_23 hT _ _ _ (Nat.le_refl _) (Nat.le_refl _) ?_
        refine bb_t ?_ rfl
        rw [p2]; exact nI_le (by omega) (by omega)
      | succ m ih =>
        intro i hi hn
        have hiN : ¬ N ≤ i := by omega
        have r1 := p6 i (by omega)
        have hyl := getD_mem (Q := l) (j := i) (by omega)
        have hyN := p7 _ hyl
        have ts := take_snoc (p := l) (i := i) (by omega)
        have td := take_drop_at (p := l) (i := i) (by omega)
        generalize l.getD i 0 = y at *
        obtain ⟨q1, q2, q3, q4, q5, q6⟩ := p8 y hyN
        have b1 := hxb _ q4
        have b2 := hxb _ q5
        have hsy := c4 y (by omega)
        by_cases hP : rvc e1 e2 S N sd (net e1 e2 sd l) k y
        · refine ⟨nI y, chp_first (A := l.take i) (B := l.drop (i + 1)) (N := N) (by rw [← td]; exact c2) (fun y hy => hy.1) hn hP, ?_⟩
          have hyk : ¬ y = k := hP.2.2.1
          have hsd := hP.2.1
          have hne := hP.2.2.2.2
          refine r_K_rivalOf_23 hT _ _ _ (Nat.le_refl _) (Nat.le_refl _) ?_
          simp (disch := first | omega | decide) only [p2, hiN, r1, hyk, hsy, hsd, q1, q2, nl_cross, b1, b2, nl_add1, nl_add2, nl_mul1, nl_mul2, nl_sub1, nl_lt1, nl_lt2, nl_le1, nl_le2, nl_eq1, nl_eq2, nl_m1, nl_m2, nl_inT, nI_add, nI_mul, nI_leI, nI_ltI, nI_eq, nI_clamp, nl_bit, oI_n, oI_s, oI_m1, true_and, and_true, eq_self, Bool.false_eq_true, not_false_eq_true, not_true_eq_false, false_implies, true_implies, implies_true, forall_const, Nat.not_lt_zero, ab_row_eq, ab_row_ne, ab_up_i, ab_up_o, pk_us, pk_un, ab_row_row]
          exact fun e => absurd e hne
        · obtain ⟨r, g1, g2⟩ := ih (i + 1) (by omega) (fun z hz => by
            rw [ts] at hz
            rcases List.mem_append.mp hz with h | h
            · exact hn z h
            · rw [List.mem_singleton.mp h]; exact hP)
          refine ⟨r, g1, ?_⟩
          refine r_K_rivalOf_23 hT _ _ _ (Nat.le_refl _) (Nat.le_refl _) ?_
          simp (disch := first | omega | decide) only [p2, hiN, r1, hsy, q1, q2, nl_cross, b1, b2, nl_add1, nl_add2, nl_mul1, nl_mul2, nl_sub1, nl_lt1, nl_lt2, nl_le1, nl_le2, nl_eq1, nl_eq2, nl_m1, nl_m2, nl_inT, nI_add, nI_mul, nI_leI, nI_ltI, nI_eq, nI_clamp, nl_bit, oI_n, oI_s, oI_m1, true_and, and_true, eq_self, Bool.false_eq_true, not_false_eq_true, not_true_eq_false, false_implies, true_implies, implies_true, forall_const, Nat.not_lt_zero, ab_row_eq, ab_row_ne, ab_up_i, ab_up_o, pk_us, pk_un, ab_row_row]
          refine ⟨fun _ => g2, fun a => ⟨fun s => ⟨fun _ => g2, fun e => absurd ?_ hP⟩, fun _ => g2⟩⟩
          exact ⟨hyN, s, a, hkT, e⟩
    obtain ⟨r, g1, g2⟩ := loop N 0 (by omega) (fun y hy => by simp at hy)
    refine ⟨r, g1, ?_⟩
    refine ab_C_of (by decide) rfl (Nat.le_of_ble_eq_true rfl) hT ?_
    refine r_K_rivalOf_0 hT _ (Nat.le_refl _) (Nat.le_refl _) ?_
    exact ⟨x, hcu, fun _ => g2, fun h => absurd h hz⟩
theorem spn_nat {T : List Nat} (hf : fo e1 e2 T) {x y : Nat} : wS pr (pth e1 e2 T x y) = if pth e1 e2 T x y = none then -1 else nI (spn e1 e2 pr T x y) := by
  unfold spn
  cases h : pth e1 e2 T x y with
  | none => rfl
  | some p => rfl
theorem k_farthest (hT : w.1.stackTraces = false) (hq : kQ I S N sd e1 e2 pr fm l) {s : Nat} (hs : s < S) : ab_P w (d + 1) mt_Ways_farthest [.ref kx_ways, .int (nI s)] I L n nc ns (nI (mxf (spn e1 e2 pr (net e1 e2 sd l).reverse s) S)) := by
  have p3 := hq.1.1.2.2.1
  have h0 : I kx_ways 0 = nI S := hq.2.2.2.2.2.2.2.1
  have hb : ∀ x y, spn e1 e2 pr (net e1 e2 sd l).reverse x y < 2 ^ 31 := fun x y => by
    unfold spn
    cases h : pth e1 e2 (net e1 e2 sd l).reverse x y with
    | none => show (0 : Nat) < 2 ^ 31; omega
    | some p => exact kq_sum hq h
  refine ab_C_of (by decide) rfl (Nat.le_of_ble_eq_true rfl) hT ?_
  refine r_Ways_farthest_0 hT _ (Nat.le_refl _) (Nat.le_refl _) ?_
  refine up_ind (N := S) (E := fun i => ab_E w (d + 1) mt_Ways_farthest 4 [.ref kx_ways, .int (nI s), .int (nI (mxf (spn e1 e2 pr (net e1 e2 sd l).reverse s) i)), .int (nI i)] [] (I, L, ab_RR, n, nc, ns) (.inl (some (.int (nI (mxf (spn e1 e2 pr (net e1 e2 sd l).reverse s) S)))), (I, L, ab_RR, n, nc, ns))) ?_ ?_ 0 (Nat.zero_le _)
  · refine r_Ways_farthest_4 hT _ _ _ (Nat.le_refl _) (Nat.le_refl _) ?_
    refine bb_t ?_ rfl
    rw [h0]; exact nI_le (Nat.le_refl _) (by omega)
  · intro i hi nx
    have hiN : ¬ S ≤ i := by omega
    have a1 := (kq_w hq s i hs hi).1
    have hm : mxf (spn e1 e2 pr (net e1 e2 sd l).reverse s) i < 2 ^ 31 := by
      have := mxf_le (g := spn e1 e2 pr (net e1 e2 sd l).reverse s) (b := 2 ^ 31 - 1) (k := i) (fun j _ => by have := hb s j; omega)
      omega
    have hv : ab_max32 (nI (mxf (spn e1 e2 pr (net e1 e2 sd l).reverse s) i)) (I kx_ways_span (s * 10 + i)) = nI (mxf (spn e1 e2 pr (net e1 e2 sd l).reverse s) (i + 1)) := by
      rw [a1, mxf]
      cases h : pth e1 e2 (net e1 e2 sd l).reverse s i with
      | none =>
        have e : spn e1 e2 pr (net e1 e2 sd l).reverse s i = 0 := by unfold spn; rw [h]
        rw [e, Nat.max_eq_left (Nat.zero_le _)]
        show ab_max32 _ (-1) = _
        exact ab_max_m1 hm
      | some p =>
        have e : spn e1 e2 pr (net e1 e2 sd l).reverse s i = (p.map pr).sum := by unfold spn; rw [h]
        rw [e]
        exact ab_max_nI hm (kq_sum hq h)
    refine r_Ways_farthest_4 hT _ _ _ (Nat.le_refl _) (Nat.le_refl _) ?_
    simp (disch := first | omega | decide) only [h0, hiN, hv, nl_add1, nl_add2, nl_mul1, nl_mul2, nl_sub1, nl_lt1, nl_lt2, nl_le1, nl_le2, nl_eq1, nl_eq2, nl_m1, nl_m2, nl_inT, nI_add, nI_mul, nI_leI, nI_ltI, nI_eq, nI_clamp, nl_bit, oI_n, oI_s, oI_m1, true_and, and_true, eq_self, Bool.false_eq_true, not_false_eq_true, not_true_eq_false, false_implies, true_implies, implies_true, forall_const, Nat.not_lt_zero, ab_row_eq, ab_row_ne, ab_up_i, ab_up_o, pk_us, pk_un, ab_row_row]
    exact nx
theorem kq_spn (hq : kQ I S N sd e1 e2 pr fm l) (x y : Nat) : spn e1 e2 pr (net e1 e2 sd l).reverse x y ≤ 8991 := by
  unfold spn
  cases h : pth e1 e2 (net e1 e2 sd l).reverse x y with
  | none => exact Nat.zero_le _
  | some p =>
    have hp' := pth_pt h
    have h1 := pt_len (kq_fo hq) hp'
    rw [List.length_reverse] at h1
    have h2 := kq_len hq
    have h3 := hq.1.1.2.2.1
    have h4 := sum_le (f := pr) (b := 999) p (fun k hk => (hq.1.1.2.2.2.2.2.2.2 k (kq_lt hq (List.mem_reverse.mp (pt_mem hp' k hk).1))).2.2.2.2.2)
    have : 999 * p.length ≤ 999 * 9 := Nat.mul_le_mul_left _ (by omega)
    show (p.map pr).sum ≤ _
    omega
theorem k_longest (hT : w.1.stackTraces = false) (hq : kQ I S N sd e1 e2 pr fm l) : ab_P w (d + 2) mt_Ways_longest [.ref kx_ways] I L n nc ns (nI (lgf (spn e1 e2 pr (net e1 e2 sd l).reverse) S)) := by
  have p3 := hq.1.1.2.2.1
  have h0 : I kx_ways 0 = nI S := hq.2.2.2.2.2.2.2.1
  rw [lgf_mxf (spn_symm (kq_fo hq)) (spn_self (kq_fo hq))]
  generalize hg : (fun s => mxf (spn e1 e2 pr (net e1 e2 sd l).reverse s) S) = g
  have hgN : ∀ s, g s ≤ 8991 := fun s => by rw [← hg]; exact mxf_le (fun j _ => kq_spn hq s j)
  have ge : ∀ s, mxf (spn e1 e2 pr (net e1 e2 sd l).reverse s) S = g s := fun s => by rw [← hg]
  refine ab_C_of (by decide) rfl (Nat.le_of_ble_eq_true rfl) hT ?_
  refine r_Ways_longest_0 hT (Nat.le_refl _) (Nat.le_refl _) ?_
  refine up_ind (N := S) (E := fun i => ab_E w ((d + 1) + 1) mt_Ways_longest 4 [.ref kx_ways, .int (nI (mxf g i)), .int (nI i)] [] (I, L, ab_RR, n, nc, ns) (.inl (some (.int (nI (mxf g S)))), (I, L, ab_RR, n, nc, ns))) ?_ ?_ 0 (Nat.zero_le _)
  · refine r_Ways_longest_4 hT _ _ (Nat.le_refl _) (Nat.le_refl _) ?_
    refine bb_t ?_ rfl
    rw [h0]; exact nI_le (Nat.le_refl _) (by omega)
  · intro i hi nx
    have hf := k_farthest (w := w) (d := d) (n := n) (nc := nc) (ns := ns) (L := L) hT hq hi
    rw [ge] at hf
    have l1 := hgN i
    have l2 := mxf_le (g := g) (b := 8991) (k := i) (fun j _ => hgN j)
    refine r_Ways_longest_4 hT _ _ (Nat.le_refl _) (Nat.le_refl _) ?_
    refine bb_f (by rw [h0]; exact nI_ge hi (by omega)) ⟨_, hf, ?_⟩
    rw [ab_max_nI (by omega) (by omega), nI_1]
    rw [mxf] at nx
    exact nx
theorem k_centre (hT : w.1.stackTraces = false) (hq : kQ I S N sd e1 e2 pr fm l) : ab_P w (d + 2) mt_Ways_centre [.ref kx_ways] I L n nc ns (nI (ctf (fun s => mxf (spn e1 e2 pr (net e1 e2 sd l).reverse s) S) S)) := by
  have p3 := hq.1.1.2.2.1
  have hS2 := hq.1.2.2.1
  have h0 : I kx_ways 0 = nI S := hq.2.2.2.2.2.2.2.1
  generalize hg : (fun s => mxf (spn e1 e2 pr (net e1 e2 sd l).reverse s) S) = g
  have hgN : ∀ s, g s ≤ 8991 := fun s => by rw [← hg]; exact mxf_le (fun j _ => kq_spn hq s j)
  have ge : ∀ s, mxf (spn e1 e2 pr (net e1 e2 sd l).reverse s) S = g s := fun s => by rw [← hg]
  have f0 := k_farthest (w := w) (d := d) (n := n) (nc := nc) (ns := ns) (L := L) hT hq (s := 0) (by omega)
  rw [ge] at f0
  have z1 : ctf g 1 = 0 := by
    rw [ctf, ctf]; split <;> rfl
  refine ab_C_of (by decide) rfl (Nat.le_of_ble_eq_true rfl) hT ?_
  refine r_Ways_centre_0 hT (Nat.le_refl _) (Nat.le_refl _) ?_
  refine ⟨_, f0, ?_⟩
  have := up_ind (N := S) (E := fun i => 1 ≤ i → ab_E w ((d + 1) + 1) mt_Ways_centre 10 [.ref kx_ways, .int (nI (ctf g i)), .int (nI (g (ctf g i))), .int (nI i), .null] [] (I, L, ab_RR, n, nc, ns) (.inl (some (.int (nI (ctf g S)))), (I, L, ab_RR, n, nc, ns))) ?_ ?_ 1 (by omega) (Nat.le_refl _)
  · rw [z1] at this; exact this
  · intro _
    refine r_Ways_centre_10 hT _ _ _ (Nat.le_refl _) (Nat.le_refl _) ?_
    refine bb_t ?_ rfl
    rw [h0]; exact nI_le (Nat.le_refl _) (by omega)
  · intro i hi nx hi1
    have nx := nx (by omega)
    have hlt := ctf_lt g i (by omega)
    have hf := k_farthest (w := w) (d := d) (n := n) (nc := nc) (ns := ns) (L := L) hT hq hi
    rw [ge] at hf
    have l1 := hgN i
    have l2 := hgN (ctf g i)
    refine r_Ways_centre_10 hT _ _ _ (Nat.le_refl _) (Nat.le_refl _) ?_
    refine bb_f (by rw [h0]; exact nI_ge hi (by omega)) ⟨_, hf, ?_⟩
    rw [nI_leI (by omega) (by omega), nI_1]
    rw [ctf] at nx
    refine ⟨fun h => ?_, fun h => ?_⟩
    · rw [if_neg (by omega)] at nx; exact nx
    · rw [if_pos (by omega)] at nx; exact nx
/-- the ring of a cable outside -/
theorem out_ring (hq : kQ I S N sd e1 e2 pr fm l) {k : Nat} (hk : k < N) (hs : sd k = true) (hn : k ∉ net e1 e2 sd l) : ∃ p c, pth e1 e2 (net e1 e2 sd l).reverse (e1 k) (e2 k) = some p ∧ p ≠ [] ∧ dst pr p c ∧ c < N ∧ c ∈ net e1 e2 sd l ∧ wD pr (some p) = nI c := by
  have hw : ∀ k, k < N → e1 k < S ∧ e2 k < S := fun k hk => ⟨(hq.1.1.2.2.2.2.2.2.2 k hk).2.2.2.1, (hq.1.1.2.2.2.2.2.2.2 k hk).2.2.2.2.1⟩
  have hcn : cn e1 e2 (fun k => k ∈ (net e1 e2 sd l).reverse) (e1 k) (e2 k) := cn_mono (fun c hc => List.mem_reverse.mpr hc) ((net_span (S := S) hq.1.2.1 hw sd (e1 k) (e2 k)).mpr (cn_edge ⟨hk, hs⟩))
  obtain ⟨p, hp⟩ := pth_cn.mpr hcn
  have hne : p ≠ [] := fun e => (hq.1.2.2.2.2.2 k hk).2.2.2 (pt_nil (by rw [e] at hp; exact pth_pt hp))
  obtain ⟨c, hc⟩ := dst_ex (pr := pr) hne
  have hcT := List.mem_reverse.mp (pt_mem (pth_pt hp) c hc.1).1
  refine ⟨p, c, hp, hne, hc, kq_lt hq hcT, hcT, ?_⟩
  cases p with
  | nil => exact absurd rfl hne
  | cons a q => show nI (dmx pr (a :: q)) = _; rw [dmx_eq hc]
theorem k_nextBest (hT : w.1.stackTraces = false) (hq : kQ I S N sd e1 e2 pr fm l) : ab_P w (d + 3) mt_K_nextBest [.ref kx] I L n nc ns (nbf (nbV e1 e2 pr (net e1 e2 sd l) ((net e1 e2 sd l).map pr).sum) (fun k => sd k && !decide (k ∈ net e1 e2 sd l)) N) := by
  obtain ⟨p1, p2, p3, p4, p5, p6, p7, p8⟩ := hq.1.1
  obtain ⟨c2, c3, c4, c5, c6⟩ := hq.1.2
  have t2 : I kx_forest 3 = nI ((net e1 e2 sd l).map pr).sum := hq.2.2.2.1
  generalize htt : ((net e1 e2 sd l).map pr).sum = tt at *
  generalize hV : nbV e1 e2 pr (net e1 e2 sd l) tt = V
  generalize ho : (fun k => sd k && !decide (k ∈ net e1 e2 sd l)) = out
  refine ab_C_of (by decide) rfl (Nat.le_of_ble_eq_true rfl) hT ?_
  refine r_K_nextBest_0 hT (Nat.le_refl _) (Nat.le_refl _) ?_
  refine up_ind (N := N) (E := fun i => ab_E w (d + 3) mt_K_nextBest 4 [.ref kx, .int (nbf V out i), .int (nI i), .null, .null] [] (I, L, ab_RR, n, nc, ns) (.inl (some (.int (nbf V out N))), (I, L, ab_RR, n, nc, ns))) ?_ ?_ 0 (Nat.zero_le _)
  · refine r_K_nextBest_4 hT _ _ (Nat.le_refl _) (Nat.le_refl _) ?_
    refine bb_t ?_ rfl
    rw [p2]; exact nI_le (Nat.le_refl _) (by omega)
  · intro i hi nx
    have hiN : ¬ N ≤ i := by omega
    have hsi := c4 i (by omega)
    have hbi := kq_bits hq (k := i) (by omega)
    obtain ⟨q1, q2, q3, q4, q5, q6⟩ := p8 i hi
    by_cases hs : sd i = true
    · by_cases hk : i ∈ net e1 e2 sd l
      · rw [nbf, if_neg (by rw [← ho]; simp [hk])] at nx
        refine r_K_nextBest_4 hT _ _ (Nat.le_refl _) (Nat.le_refl _) ?_
        simp (disch := first | omega | decide) only [p2, hiN, hsi, hs, hbi, hk, decide_true, nl_add1, nl_add2, nl_mul1, nl_mul2, nl_sub1, nl_lt1, nl_lt2, nl_le1, nl_le2, nl_eq1, nl_eq2, nl_m1, nl_m2, nl_inT, nI_add, nI_mul, nI_leI, nI_ltI, nI_eq, nI_clamp, nl_bit, oI_n, oI_s, oI_m1, true_and, and_true, eq_self, Bool.false_eq_true, not_false_eq_true, not_true_eq_false, false_implies, true_implies, implies_true, forall_const, Nat.not_lt_zero, ab_row_eq, ab_row_ne, ab_up_i, ab_up_o, pk_us, pk_un, ab_row_row]
        exact nx
      · obtain ⟨p, c, a1, a2, a3, a4, a5, a6⟩ := out_ring hq hi hs hk
        have a7 := (kq_w hq (e1 i) (e2 i) q4 q5).2.2.2
        rw [a1, a6] at a7
        have u3 := (p8 c a4).2.2.1
        have hVi : V i = nI tt + nI (pr i) - nI (pr c) := by
          rw [← hV]; unfold nbV; rw [a1]
          show _ - nI (pr (dmx pr p)) = _
          rw [dmx_eq a3]
        rw [nbf, if_pos (by rw [← ho]; simp [hs, hk]), hVi, nI_add] at nx
        refine r_K_nextBest_4 hT _ _ (Nat.le_refl _) (Nat.le_refl _) ?_
        simp (disch := first | omega | decide) only [p2, hiN, hsi, hs, hbi, hk, decide_false, q1, q2, q3, a7, u3, t2, nl_add1, nl_add2, nl_mul1, nl_mul2, nl_sub1, nl_lt1, nl_lt2, nl_le1, nl_le2, nl_eq1, nl_eq2, nl_m1, nl_m2, nl_inT, nI_add, nI_mul, nI_leI, nI_ltI, nI_eq, nI_clamp, nl_bit, oI_n, oI_s, oI_m1, true_and, and_true, eq_self, Bool.false_eq_true, not_false_eq_true, not_true_eq_false, false_implies, true_implies, implies_true, forall_const, Nat.not_lt_zero, ab_row_eq, ab_row_ne, ab_up_i, ab_up_o, pk_us, pk_un, ab_row_row]
        refine ⟨fun e => ?_, fun e => ?_⟩
        · rw [if_neg e] at nx; exact nx
        · rw [if_pos e] at nx; exact nx
    · rw [nbf, if_neg (by rw [← ho]; simp [hs])] at nx
      refine r_K_nextBest_4 hT _ _ (Nat.le_refl _) (Nat.le_refl _) ?_
      simp (disch := first | omega | decide) only [p2, hiN, hsi, hs, nl_add1, nl_add2, nl_mul1, nl_mul2, nl_sub1, nl_lt1, nl_lt2, nl_le1, nl_le2, nl_eq1, nl_eq2, nl_m1, nl_m2, nl_inT, nI_add, nI_mul, nI_leI, nI_ltI, nI_eq, nI_clamp, nl_bit, oI_n, oI_s, oI_m1, true_and, and_true, eq_self, Bool.false_eq_true, not_false_eq_true, not_true_eq_false, false_implies, true_implies, implies_true, forall_const, Nat.not_lt_zero, ab_row_eq, ab_row_ne, ab_up_i, ab_up_o, pk_us, pk_un, ab_row_row]
      exact nx
end KQU
