/-! THE MODEL'S WAYS: tellWay, and what goes over the way -/
/-- what tellWay leaves as it was -/
def tw_fr (J I : Nat → Nat → Int32) : Prop := (∀ c, c ≠ mx → c ≠ mx_way → c ≠ mx_by → c ≠ mx_open → J c = I c) ∧ ∀ k, k ≠ 26 → J mx k = I mx k
theorem tw_fr_refl {I : Nat → Nat → Int32} : tw_fr I I := ⟨fun _ _ _ _ _ => rfl, fun _ _ => rfl⟩
theorem tw_fr_trans {J K I : Nat → Nat → Int32} (h : tw_fr K J) (g : tw_fr J I) : tw_fr K I := ⟨fun c h1 h2 h3 h4 => (h.1 c h1 h2 h3 h4).trans (g.1 c h1 h2 h3 h4), fun k hk => (h.2 k hk).trans (g.2 k hk)⟩
/-- what it answers -/
def tw_an (e1 e2 : Nat → Nat) (T : List Nat) (a b : Nat) (J : Nat → Nat → Int32) (r : Int32) : Prop :=
  (∃ p, pt e1 e2 T a b p ∧ r = nI p.length ∧ J mx 26 = nI p.length ∧ p.length ≤ 9 ∧ ∀ j, j < p.length → J mx_way j = nI (p.getD j 0)) ∨ (¬ cn e1 e2 (fun k => k ∈ T) a b ∧ r = -1 ∧ J mx 26 = 0)
/-- the search: the sites that are open, how each was come to -/
def tw_in (e1 e2 : Nat → Nat) (S : Nat) (T : List Nat) (b : Nat) (Q : List Nat) (J : Nat → Nat → Int32) : Prop :=
  (∀ j, j < Q.length → J mx_open j = nI (Q.getD j 0)) ∧ Q.Nodup ∧ (∀ s ∈ Q, s < S) ∧ b ∈ Q ∧ (∀ s, s < S → s ∉ Q → J mx_by s = -1) ∧
  ∀ s ∈ Q, (s = b ∧ J mx_by s = 24) ∨ ∃ k p u, J mx_by s = nI k ∧ k ∈ T ∧ ed e1 e2 k s u ∧ u ∈ Q ∧ pt e1 e2 T u b p ∧ pt e1 e2 T s b (k :: p)
def tw_cl (e1 e2 : Nat → Nat) (T Q : List Nat) (s m : Nat) : Prop := ∀ k ∈ T, k < m → ∀ u, ed e1 e2 k s u → u ∈ Q
theorem getD_snoc_l {Q : List Nat} {x j : Nat} (h : j < Q.length) : (Q ++ [x]).getD j 0 = Q.getD j 0 := by
  rw [List.getD_eq_getElem?_getD, List.getD_eq_getElem?_getD, List.getElem?_append_left h]
theorem getD_snoc_r {Q : List Nat} {x : Nat} : (Q ++ [x]).getD Q.length 0 = x := by
  rw [List.getD_eq_getElem?_getD, List.getElem?_append_right (Nat.le_refl _)]; simp
theorem getD_mem {Q : List Nat} {j : Nat} (h : j < Q.length) : Q.getD j 0 ∈ Q := by
  rw [List.getD_eq_getElem?_getD, List.getElem?_eq_getElem h]; exact List.getElem_mem h
theorem nd_lt {Q : List Nat} {S : Nat} (hn : Q.Nodup) (h : ∀ s ∈ Q, s < S) : Q.length ≤ S := by
  have := nd_len Q (List.range S) hn (fun k hk => List.mem_range.mpr (h k hk))
  rwa [List.length_range] at this
section TWY
variable {w : ab_Wd} {d n nc ns : Nat} {I : Nat → Nat → Int32} {L : Nat → Nat → Int64}
variable {S N : Nat} {e1 e2 pr : Nat → Nat} {l : List Nat}
theorem ed_other {k u a b : Nat} (h : ed e1 e2 k u a) (g : ed e1 e2 k u b) : a = b := by
  unfold ed at *; omega
theorem tw_pt {T Q : List Nat} {b s : Nat} {J : Nat → Nat → Int32} (h : tw_in e1 e2 S T b Q J) (hs : s ∈ Q) : ∃ p, pt e1 e2 T s b p := by
  rcases h.2.2.2.2.2 s hs with ⟨e, -⟩ | ⟨k, p, u, -, -, -, -, -, hp⟩
  · rw [e]; exact ⟨[], pt_self⟩
  · exact ⟨_, hp⟩
theorem tw_add {T Q : List Nat} {b k u o : Nat} {J : Nat → Nat → Int32} (hf : fo e1 e2 T) (h : tw_in e1 e2 S T b Q J) (hu : u ∈ Q) (hk : k ∈ T) (he : ed e1 e2 k u o) (ho : o ∉ Q) (hS : o < S) : tw_in e1 e2 S T b (Q ++ [o]) (ab_up (ab_up J mx_by o (nI k)) mx_open Q.length (nI o)) := by
  obtain ⟨p, hp⟩ := tw_pt h hu
  have hpo : pt e1 e2 T o b (k :: p) := by
    rcases pt_edge hf hk he hp with g | ⟨q, g1, g2⟩
    · exact g
    · exfalso
      rcases h.2.2.2.2.2 u hu with ⟨e, -⟩ | ⟨k', p', u', -, -, he', hu', -, hp'⟩
      · rw [e] at hp
        have := pt_uq hf hp pt_self
        rw [this] at g1; cases g1
      · have := pt_uq hf hp hp'
        rw [g1] at this
        have ek : k = k' := (List.cons.inj this).1
        rw [← ek] at he'
        exact ho (ed_other he he' ▸ hu')
  obtain ⟨h1, h2, h3, h4, h5, h6⟩ := h
  have hb : o ≠ b := fun e => ho (e ▸ h4)
  refine ⟨fun j hj => ?_, ?_, fun s hs => ?_, List.mem_append_left _ h4, fun s hs hn => ?_, fun s hs => ?_⟩
  · rw [ab_up_i]
    rw [List.length_append, List.length_singleton] at hj
    by_cases e : j = Q.length
    · subst e; rw [pk_us, getD_snoc_r]
    · rw [pk_un e, ab_up_o (by decide), h1 j (by omega), getD_snoc_l (by omega)]
  · rw [List.nodup_append]
    exact ⟨h2, List.pairwise_singleton _ _, fun a ha c hc e => by rw [List.mem_singleton.mp hc] at e; exact ho (e ▸ ha)⟩
  · rcases List.mem_append.mp hs with hs | hs
    · exact h3 s hs
    · rw [List.mem_singleton.mp hs]; exact hS
  · rw [ab_up_o (by decide), ab_up_i]
    have e : s ≠ o := fun e => hn (List.mem_append_right _ (by rw [e]; exact List.mem_cons_self))
    rw [pk_un e]
    exact h5 s hs (fun g => hn (List.mem_append_left _ g))
  · rw [ab_up_o (by decide), ab_up_i]
    rcases List.mem_append.mp hs with hs | hs
    · have e : s ≠ o := fun e => ho (e ▸ hs)
      rw [pk_un e]
      rcases h6 s hs with g | ⟨k', p', u', g1, g2, g3, g4, g5⟩
      · exact Or.inl g
      · exact Or.inr ⟨k', p', u', g1, g2, g3, List.mem_append_left _ g4, g5⟩
    · rw [List.mem_singleton.mp hs, pk_us]
      exact Or.inr ⟨k, p, u, rfl, hk, ed_symm he, List.mem_append_left _ hu, hp, hpo⟩
theorem tw_all {T Q : List Nat} {b : Nat} {J : Nat → Nat → Int32} (h : tw_in e1 e2 S T b Q J) (hN : ∀ k ∈ T, k < N) (hc : ∀ s ∈ Q, tw_cl e1 e2 T Q s N) (s : Nat) : s ∈ Q ↔ cn e1 e2 (fun k => k ∈ T) s b := by
  constructor
  · intro hs
    obtain ⟨p, hp⟩ := tw_pt h hs
    exact pt_cn hp
  · intro g
    refine (cn_symm g) (fun z => z ∈ Q) (fun c hcT => ⟨fun a => ?_, fun a => ?_⟩) h.2.2.2.1
    · exact hc _ a c hcT (hN c hcT) _ (Or.inl ⟨rfl, rfl⟩)
    · exact hc _ a c hcT (hN c hcT) _ (Or.inr ⟨rfl, rfl⟩)
/-- the way is told from its first site on -/
theorem tw_walk (hT : w.1.stackTraces = false) {T Q : List Nat} {v v4 : Int32} {a b : Nat} {J : Nat → Nat → Int32} (hf : fo e1 e2 T) (h : tw_in e1 e2 S T b Q J) (hNT : ∀ k ∈ T, k < N) (hN : N ≤ 24) (hS : S ≤ 10) (hr : ∀ k, k < N → J mx_now (3 + k) = nI (e1 k) ∧ J mx_now (27 + k) = nI (e2 k) ∧ e1 k < S ∧ e2 k < S) :
    ∀ (p2 p1 : List Nat) (s : Nat) (K : Nat → Nat → Int32), s ∈ Q → pt e1 e2 T s b p2 → p1.length + p2.length ≤ 9 → tw_fr K J → K mx_by = J mx_by → K mx 26 = nI p1.length → (∀ j, j < p1.length → K mx_way j = nI (p1.getD j 0)) →
      ∃ K', tw_fr K' J ∧ K' mx 26 = nI (p1 ++ p2).length ∧ (∀ j, j < (p1 ++ p2).length → K' mx_way j = nI ((p1 ++ p2).getD j 0)) ∧ ab_E w (d + 1) mt_M_tellWay 170 [.ref mx, .int v, .int (nI a), .int (nI b), .int v4, .int (nI s), .null, .null] [] (K, L, ab_RR, n, nc, ns) (.inl (some (.int (nI (p1 ++ p2).length))), (K', L, ab_RR, n, nc, ns)) := by
  intro p2
  induction p2 with
  | nil =>
    intro p1 s K hs hp hl hK hby h26 hw
    rw [List.append_nil]
    refine ⟨K, hK, h26, hw, ?_⟩
    refine r_M_tellWay_170 hT _ _ _ _ _ (Nat.le_refl _) (Nat.le_refl _) ?_
    rw [pt_nil hp]
    exact ⟨fun _ => by rw [h26], fun g => absurd rfl g⟩
  | cons k p2 ih =>
    intro p1 s K hs hp hl hK hby h26 hw
    rw [List.length_cons] at hl
    have hsb : s ≠ b := by
      intro e
      rw [e] at hp
      have := pt_uq hf hp pt_self
      cases this
    have hsS : s < S := h.2.2.1 s hs
    have hbS : b < S := h.2.2.1 b h.2.2.2.1
    obtain ⟨u, hbs, hkT, he, hu, hpu⟩ : ∃ u, J mx_by s = nI k ∧ k ∈ T ∧ ed e1 e2 k s u ∧ u ∈ Q ∧ pt e1 e2 T u b p2 := by
      rcases h.2.2.2.2.2 s hs with ⟨e, -⟩ | ⟨k', p', u', g1, g2, g3, g4, g5, g6⟩
      · exact absurd e hsb
      · have := pt_uq hf hp g6
        obtain ⟨ek, ep⟩ := List.cons.inj this
        rw [← ek] at g1 g2 g3
        rw [← ep] at g5
        exact ⟨u', g1, g2, g3, g4, g5⟩
    have hkN := hNT k hkT
    obtain ⟨r3, r27, b1, b2⟩ := hr k hkN
    have hnow : K mx_now = J mx_now := hK.1 mx_now (by decide) (by decide) (by decide) (by decide)
    have q3 : K mx_now (3 + k) = nI (e1 k) := by rw [hnow]; exact r3
    have q27 : K mx_now (27 + k) = nI (e2 k) := by rw [hnow]; exact r27
    have qb : K mx_by s = nI k := by rw [hby]; exact hbs
    obtain ⟨K', g1, g2, g3, g4⟩ := ih (p1 ++ [k]) u (ab_up (ab_up K mx_way p1.length (nI k)) mx 26 (nI (p1.length + 1))) hu hpu (by rw [List.length_append, List.length_singleton]; omega) (by
      refine tw_fr_trans ⟨fun c h1 h2 h3 h4 => by rw [ab_up_o h1, ab_up_o h2], fun k hk => by rw [ab_up_i, pk_un hk, ab_up_o (by decide)]⟩ hK) (by rw [ab_up_o (by decide), ab_up_o (by decide)]; exact hby) (by rw [ab_up_i, pk_us, List.length_append, List.length_singleton]) (fun j hj => by
      rw [ab_up_o (by decide), ab_up_i]
      rw [List.length_append, List.length_singleton] at hj
      by_cases e : j = p1.length
      · subst e; rw [pk_us, getD_snoc_r]
      · rw [pk_un e, hw j (by omega), getD_snoc_l (by omega)])
    have e9 : p1 ++ [k] ++ p2 = p1 ++ k :: p2 := by simp
    rw [e9] at g2 g3 g4
    refine ⟨K', g1, g2, g3, ?_⟩
    refine r_M_tellWay_170 hT _ _ _ _ _ (Nat.le_refl _) (Nat.le_refl _) ?_
    simp (disch := first | omega | decide) only [h26, qb, q3, q27, Nat.add_sub_cancel, show s = b ↔ False from ⟨hsb, False.elim⟩, nl_add1, nl_add2, nl_mul1, nl_mul2, nl_sub1, nl_lt1, nl_lt2, nl_le1, nl_le2, nl_eq1, nl_eq2, nl_m1, nl_m2, nl_inT, nI_add, nI_mul, nI_leI, nI_ltI, nI_eq, nI_clamp, nl_bit, oI_n, oI_s, oI_m1, true_and, and_true, eq_self, Bool.false_eq_true, not_false_eq_true, not_true_eq_false, false_implies, true_implies, implies_true, forall_const, Nat.not_lt_zero, ab_row_eq, ab_row_ne, ab_up_i, ab_up_o, pk_us, pk_un, ab_row_row]
    refine ⟨fun e => ?_, fun e => ⟨fun e' => ?_, fun e' => ?_⟩⟩
    · have : u = e2 k := by unfold ed at he; omega
      rw [← this]; exact g4
    · have : u = e1 k := by unfold ed at he; omega
      rw [← this]; exact g4
    · exfalso; unfold ed at he; omega
theorem tw_cl_mono {T Q Q' : List Nat} {s m : Nat} (h : tw_cl e1 e2 T Q s m) (hQ : ∀ x ∈ Q, x ∈ Q') : tw_cl e1 e2 T Q' s m := fun k hk hm u hu => hQ u (h k hk hm u hu)
theorem tw_cl_succ {T Q : List Nat} {s m : Nat} (h : tw_cl e1 e2 T Q s m) (hm : m ∈ T → ∀ u, ed e1 e2 m s u → u ∈ Q) : tw_cl e1 e2 T Q s (m + 1) := fun k hk hlt u hu => by
  by_cases e : k = m
  · subst e; exact hm hk u hu
  · exact h k hk (by omega) u hu
/-- the search, and the way behind it -/
theorem z_tellWay (hT : w.1.stackTraces = false) {T : List Nat} {am : Nat → Bool} {v : Int32} {a b : Nat} (hp : nm_pre I S N e1 e2 pr l) (hv : ∀ k, k < 32 → bt v k = am k) (hT1 : ∀ k, am k = true ↔ k ∈ T) (hTN : ∀ k ∈ T, k < N) (hf : fo e1 e2 T) (ha : a < S) (hb : b < S) :
    ∃ (J : Nat → Nat → Int32) (r : Int32), tw_fr J I ∧ tw_an e1 e2 T a b J r ∧ ab_PU w (d + 1) mt_M_tellWay [.ref mx, .int v, .int (nI a), .int (nI b)] I L n nc ns r J := by
  obtain ⟨p1, p2, p3, p4, p5, p6⟩ := hp
  have hTS : T.length + 1 ≤ S := fo_len T hf (fun k hk => ⟨(p6 k (hTN k hk)).2.2.2.1, (p6 k (hTN k hk)).2.2.2.2.1⟩) (by omega)
  have now : ∀ {J : Nat → Nat → Int32}, tw_fr J I → J mx_now = I mx_now := fun h => h.1 mx_now (by decide) (by decide) (by decide) (by decide)
  have rd : ∀ {J : Nat → Nat → Int32}, tw_fr J I → ∀ k, k < N → J mx_now (3 + k) = nI (e1 k) ∧ J mx_now (27 + k) = nI (e2 k) ∧ e1 k < S ∧ e2 k < S := fun h k hk => by
    rw [now h]; exact ⟨(p6 k hk).1, (p6 k hk).2.1, (p6 k hk).2.2.2.1, (p6 k hk).2.2.2.2.1⟩
  have yes : ∀ {Q : List Nat} {J : Nat → Nat → Int32} {o : Nat}, tw_in e1 e2 S T b Q J → o ∈ Q → ¬ J mx_by o = -1 := by
    intro Q J o hQ ho
    rcases hQ.2.2.2.2.2 o ho with ⟨-, e⟩ | ⟨k, p, u, e, hk, -⟩
    · rw [e]; decide
    · rw [e]; have := hTN k hk; exact nI_m1 (by omega)
  -- all is found
  have fin : ∀ Q (J : Nat → Nat → Int32), tw_fr J I → tw_in e1 e2 S T b Q J → (∀ j, j < Q.length → tw_cl e1 e2 T Q (Q.getD j 0) N) →
      ∃ (J' : Nat → Nat → Int32) (r : Int32), tw_fr J' I ∧ tw_an e1 e2 T a b J' r ∧ ab_E w (d + 1) mt_M_tellWay 50 [.ref mx, .int v, .int (nI a), .int (nI b), .int (nI Q.length), .int (nI Q.length), .null, .null] [] (J, L, ab_RR, n, nc, ns) (.inl (some (.int r)), (J', L, ab_RR, n, nc, ns)) := by
    intro Q J hJ hQ hc
    have hall := tw_all hQ hTN (fun s hs => by
      obtain ⟨j, hj, e⟩ := List.getElem_of_mem hs
      have := hc j hj
      rwa [List.getD_eq_getElem?_getD, List.getElem?_eq_getElem hj, Option.getD_some, e] at this) a
    have hl := nd_lt hQ.2.1 hQ.2.2.1
    by_cases hq : a ∈ Q
    · obtain ⟨p, hpt⟩ := tw_pt hQ hq
      have hpl := pt_len hf hpt
      have K1 : tw_fr (ab_up J mx 26 0) J := ⟨fun c h1 h2 h3 h4 => by rw [ab_up_o h1], fun k hk => by rw [ab_up_i, pk_un hk]⟩
      obtain ⟨K', g1, g2, g3, g4⟩ := tw_walk (d := d) (n := n) (nc := nc) (ns := ns) (L := L) hT (v := v) (v4 := nI Q.length) (a := a) hf hQ hTN p4 p3 (rd hJ) p [] a (ab_up J mx 26 0) hq hpt (by simp only [List.length_nil]; omega) K1 (by rw [ab_up_o (by decide)]) (by rw [ab_up_i, pk_us]; rfl) (fun j hj => absurd hj (Nat.not_lt_zero j))
      rw [List.nil_append] at g2 g3 g4
      refine ⟨K', nI p.length, tw_fr_trans g1 hJ, Or.inl ⟨p, hpt, rfl, g2, by omega, g3⟩, ?_⟩
      refine r_M_tellWay_50 hT _ _ _ _ _ (Nat.le_refl _) (Nat.le_refl _) ?_
      refine bb_t (nI_le (Nat.le_refl _) (by omega)) ⟨vp_in_nI (by omega) (by omega), bb_f' ?_ g4⟩
      rw [nI_clamp (by omega)]
      exact yes hQ hq
    · refine ⟨ab_up J mx 26 0, -1, tw_fr_trans ⟨fun c h1 h2 h3 h4 => by rw [ab_up_o h1], fun k hk => by rw [ab_up_i, pk_un hk]⟩ hJ, Or.inr ⟨fun g => hq (hall.mpr g), rfl, by rw [ab_up_i, pk_us]⟩, ?_⟩
      refine r_M_tellWay_50 hT _ _ _ _ _ (Nat.le_refl _) (Nat.le_refl _) ?_
      refine bb_t (nI_le (Nat.le_refl _) (by omega)) ⟨vp_in_nI (by omega) (by omega), bb_t' ?_ rfl⟩
      rw [nI_clamp (by omega)]
      exact hQ.2.2.2.2.1 a ha hq
  have search : ∀ m i Q (J : Nat → Nat → Int32), S - i ≤ m → i ≤ Q.length → tw_fr J I → tw_in e1 e2 S T b Q J → (∀ j, j < i → tw_cl e1 e2 T Q (Q.getD j 0) N) →
      ∃ (J' : Nat → Nat → Int32) (r : Int32), tw_fr J' I ∧ tw_an e1 e2 T a b J' r ∧ ab_E w (d + 1) mt_M_tellWay 50 [.ref mx, .int v, .int (nI a), .int (nI b), .int (nI Q.length), .int (nI i), .null, .null] [] (J, L, ab_RR, n, nc, ns) (.inl (some (.int r)), (J', L, ab_RR, n, nc, ns)) := by
    intro m
    induction m with
    | zero =>
      intro i Q J hm hi hJ hQ hc
      have hl := nd_lt hQ.2.1 hQ.2.2.1
      have e : i = Q.length := by omega
      subst e
      exact fin Q J hJ hQ hc
    | succ m ih =>
      intro i Q J hm hi hJ hQ hc
      by_cases hiQ : i < Q.length
      · have inner : ∀ q k Q (J : Nat → Nat → Int32), k + q = N → i < Q.length → tw_fr J I → tw_in e1 e2 S T b Q J → (∀ j, j < i → tw_cl e1 e2 T Q (Q.getD j 0) N) → tw_cl e1 e2 T Q (Q.getD i 0) k →
            ∃ (J' : Nat → Nat → Int32) (r : Int32), tw_fr J' I ∧ tw_an e1 e2 T a b J' r ∧ ab_E w (d + 1) mt_M_tellWay 60 [.ref mx, .int v, .int (nI a), .int (nI b), .int (nI Q.length), .int (nI i), .int (nI k), .null] [] (J, L, ab_RR, n, nc, ns) (.inl (some (.int r)), (J', L, ab_RR, n, nc, ns)) := by
          intro q
          induction q with
          | zero =>
            intro k Q J hk hi hJ hQ hc hck
            have e : k = N := by omega
            subst e
            obtain ⟨J', r, g1, g2, g3⟩ := ih (i + 1) Q J (by omega) (by omega) hJ hQ (fun j hj => by
              by_cases e : j = i
              · subst e; exact hck
              · exact hc j (by omega))
            refine ⟨J', r, g1, g2, ?_⟩
            refine r_M_tellWay_60 hT _ _ _ _ _ _ (Nat.le_refl _) (Nat.le_refl _) ?_
            have hl := nd_lt hQ.2.1 hQ.2.2.1
            refine bb_t ?_ ?_
            · rw [now hJ, p2]; exact nI_le (Nat.le_refl _) (by omega)
            · rw [nI_1]; exact g3
          | succ q ihq =>
            intro k Q J hk hi hJ hQ hc hck
            have hl := nd_lt hQ.2.1 hQ.2.2.1
            obtain ⟨q3, q27, b1, b2⟩ := rd hJ k (by omega)
            have hN0 : J mx_now 0 = nI N := by rw [now hJ]; exact p2
            have hvk := hv k (by omega)
            have hu := hQ.1 i hi
            have huQ := getD_mem hi
            generalize hgu : Q.getD i 0 = u at *
            have huS := hQ.2.2.1 u huQ
            have hkN : ¬ N ≤ k := by omega
            by_cases ham : am k = true
            · have hkT := (hT1 k).mp ham
              by_cases h1 : ∃ o, ed e1 e2 k u o
              · obtain ⟨o, ho⟩ := h1
                have hoS : o < S := by unfold ed at ho; omega
                by_cases hoQ : o ∈ Q
                · obtain ⟨J', r, g1, g2, g3⟩ := ihq (k + 1) Q J (by omega) hi hJ hQ hc (by rw [hgu]; exact tw_cl_succ hck (fun _ u' hu' => ed_other ho hu' ▸ hoQ))
                  refine ⟨J', r, g1, g2, ?_⟩
                  have hby := yes hQ hoQ
                  refine r_M_tellWay_60 hT _ _ _ _ _ _ (Nat.le_refl _) (Nat.le_refl _) ?_
                  simp (disch := first | omega | decide) only [hN0, hkN, hvk, ham, hu, q3, q27, nl_add1, nl_add2, nl_mul1, nl_mul2, nl_sub1, nl_lt1, nl_lt2, nl_le1, nl_le2, nl_eq1, nl_eq2, nl_m1, nl_m2, nl_inT, nI_add, nI_mul, nI_leI, nI_ltI, nI_eq, nI_clamp, nl_bit, oI_n, oI_s, oI_m1, true_and, and_true, eq_self, Bool.false_eq_true, not_false_eq_true, not_true_eq_false, false_implies, true_implies, implies_true, forall_const, Nat.not_lt_zero, ab_row_eq, ab_row_ne, ab_up_i, ab_up_o, pk_us, pk_un, ab_row_row]
                  refine ⟨fun e => ⟨fun g => ?_, fun g => g3⟩, fun e => ⟨fun e' => ⟨fun g => ?_, fun g => g3⟩, fun e' => g3⟩⟩
                  · exact absurd g (by rw [show e2 k = o by unfold ed at ho; omega]; exact hby)
                  · exact absurd g (by rw [show e1 k = o by unfold ed at ho; omega]; exact hby)
                · obtain ⟨J', r, g1, g2, g3⟩ := ihq (k + 1) (Q ++ [o]) _ (by omega) (by rw [List.length_append]; omega) (tw_fr_trans ⟨fun c h1 h2 h3 h4 => by rw [ab_up_o h4, ab_up_o h3], fun k hk => by rw [ab_up_o (by decide), ab_up_o (by decide)]⟩ hJ) (tw_add hf hQ huQ hkT ho hoQ hoS) (fun j hj => by
                    rw [getD_snoc_l (by omega)]; exact tw_cl_mono (hc j hj) (fun x hx => List.mem_append_left _ hx)) (by
                    rw [getD_snoc_l hi, hgu]
                    exact tw_cl_succ (tw_cl_mono hck (fun x hx => List.mem_append_left _ hx)) (fun _ u' hu' => ed_other ho hu' ▸ List.mem_append_right _ List.mem_cons_self))
                  refine ⟨J', r, g1, g2, ?_⟩
                  have hby := hQ.2.2.2.2.1 o hoS hoQ
                  have hl' : Q.length < S := by
                    have := nd_lt (Q := o :: Q) (S := S) (List.nodup_cons.mpr ⟨hoQ, hQ.2.1⟩) (fun s hs => by
                      rcases List.mem_cons.mp hs with e | e
                      · rw [e]; exact hoS
                      · exact hQ.2.2.1 s e)
                    exact this
                  rw [List.length_append, List.length_singleton] at g3
                  refine r_M_tellWay_60 hT _ _ _ _ _ _ (Nat.le_refl _) (Nat.le_refl _) ?_
                  simp (disch := first | omega | decide) only [hN0, hkN, hvk, ham, hu, q3, q27, nl_add1, nl_add2, nl_mul1, nl_mul2, nl_sub1, nl_lt1, nl_lt2, nl_le1, nl_le2, nl_eq1, nl_eq2, nl_m1, nl_m2, nl_inT, nI_add, nI_mul, nI_leI, nI_ltI, nI_eq, nI_clamp, nl_bit, oI_n, oI_s, oI_m1, true_and, and_true, eq_self, Bool.false_eq_true, not_false_eq_true, not_true_eq_false, false_implies, true_implies, implies_true, forall_const, Nat.not_lt_zero, ab_row_eq, ab_row_ne, ab_up_i, ab_up_o, pk_us, pk_un, ab_row_row]
                  refine ⟨fun e => ⟨fun g => ?_, fun g => ?_⟩, fun e => ⟨fun e' => ⟨fun g => ?_, fun g => ?_⟩, fun e' => ?_⟩⟩
                  · rw [show e2 k = o by unfold ed at ho; omega]; exact g3
                  · exact absurd (by rw [show e2 k = o by unfold ed at ho; omega]; exact hby) g
                  · rw [show e1 k = o by unfold ed at ho; omega]; exact g3
                  · exact absurd (by rw [show e1 k = o by unfold ed at ho; omega]; exact hby) g
                  · exfalso; unfold ed at ho; omega
              · obtain ⟨J', r, g1, g2, g3⟩ := ihq (k + 1) Q J (by omega) hi hJ hQ hc (by rw [hgu]; exact tw_cl_succ hck (fun _ u' hu' => absurd ⟨u', hu'⟩ h1))
                refine ⟨J', r, g1, g2, ?_⟩
                refine r_M_tellWay_60 hT _ _ _ _ _ _ (Nat.le_refl _) (Nat.le_refl _) ?_
                simp (disch := first | omega | decide) only [hN0, hkN, hvk, ham, hu, q3, q27, nl_add1, nl_add2, nl_mul1, nl_mul2, nl_sub1, nl_lt1, nl_lt2, nl_le1, nl_le2, nl_eq1, nl_eq2, nl_m1, nl_m2, nl_inT, nI_add, nI_mul, nI_leI, nI_ltI, nI_eq, nI_clamp, nl_bit, oI_n, oI_s, oI_m1, true_and, and_true, eq_self, Bool.false_eq_true, not_false_eq_true, not_true_eq_false, false_implies, true_implies, implies_true, forall_const, Nat.not_lt_zero, ab_row_eq, ab_row_ne, ab_up_i, ab_up_o, pk_us, pk_un, ab_row_row]
                refine ⟨fun e => absurd ⟨e2 k, Or.inl ⟨e.symm, rfl⟩⟩ h1, fun e => ⟨fun e' => absurd ⟨e1 k, Or.inr ⟨e'.symm, rfl⟩⟩ h1, fun e' => g3⟩⟩
            · obtain ⟨J', r, g1, g2, g3⟩ := ihq (k + 1) Q J (by omega) hi hJ hQ hc (by rw [hgu]; exact tw_cl_succ hck (fun hm => absurd ((hT1 k).mpr hm) ham))
              refine ⟨J', r, g1, g2, ?_⟩
              refine r_M_tellWay_60 hT _ _ _ _ _ _ (Nat.le_refl _) (Nat.le_refl _) ?_
              simp (disch := first | omega | decide) only [hN0, hkN, hvk, ham, nl_add1, nl_add2, nl_mul1, nl_mul2, nl_sub1, nl_lt1, nl_lt2, nl_le1, nl_le2, nl_eq1, nl_eq2, nl_m1, nl_m2, nl_inT, nI_add, nI_mul, nI_leI, nI_ltI, nI_eq, nI_clamp, nl_bit, oI_n, oI_s, oI_m1, true_and, and_true, eq_self, Bool.false_eq_true, not_false_eq_true, not_true_eq_false, false_implies, true_implies, implies_true, forall_const, Nat.not_lt_zero, ab_row_eq, ab_row_ne, ab_up_i, ab_up_o, pk_us, pk_un, ab_row_row]
              exact g3
        obtain ⟨J', r, g1, g2, g3⟩ := inner N 0 Q J (by omega) hiQ hJ hQ hc (fun k _ hk => absurd hk (Nat.not_lt_zero k))
        refine ⟨J', r, g1, g2, ?_⟩
        have hl := nd_lt hQ.2.1 hQ.2.2.1
        refine r_M_tellWay_50 hT _ _ _ _ _ (Nat.le_refl _) (Nat.le_refl _) ?_
        exact bb_f (nI_ge hiQ (by omega)) g3
      · have e : i = Q.length := by omega
        subst e
        exact fin Q J hJ hQ hc
  -- the beginning
  have h0 : tw_in e1 e2 S T b [b] (ab_up (ab_row I mx_by (fun k => if k < S then (fun k => if k = b then 24 else -1) k else I mx_by k)) mx_open 0 (nI b)) := by
    refine ⟨fun j hj => ?_, List.pairwise_singleton _ _, fun s hs => ?_, List.mem_cons_self, fun s hs hn => ?_, fun s hs => ?_⟩
    · have : j = 0 := by simp at hj; omega
      subst this
      rw [ab_up_i, pk_us]; rfl
    · rw [List.mem_singleton.mp hs]; exact hb
    · rw [ab_up_o (by decide), ab_row_eq, if_pos hs]
      exact if_neg (fun e => hn (by rw [e]; exact List.mem_cons_self))
    · rw [List.mem_singleton.mp hs]
      refine Or.inl ⟨rfl, ?_⟩
      rw [ab_up_o (by decide), ab_row_eq, if_pos hb]
      exact if_pos rfl
  obtain ⟨J', r, g1, g2, g3⟩ := search S 0 [b] _ (by omega) (Nat.zero_le _) (by
    refine ⟨fun c h1 h2 h3 h4 => by rw [ab_up_o h4, ab_row_ne h3], fun k hk => by rw [ab_up_o (by decide), ab_row_ne (by decide)]⟩) h0 (fun j hj => absurd hj (Nat.not_lt_zero j))
  refine ⟨J', r, g1, g2, ?_⟩
  refine ab_C_of (by decide) rfl (Nat.le_of_ble_eq_true rfl) hT ?_
  refine r_M_tellWay_0 hT _ _ _ (Nat.le_refl _) (Nat.le_refl _) ?_
  have := up_ind (N := S) (E := fun i => ab_E w (d + 1) mt_M_tellWay 3 [.ref mx, .int v, .int (nI a), .int (nI b), .int (nI i), .null, .null, .null] [] ((ab_row I mx_by (fun k => if k < i then (fun k => if k = b then 24 else -1) k else I mx_by k)), L, ab_RR, n, nc, ns) (.inl (some (.int r)), (J', L, ab_RR, n, nc, ns))) ?_ ?_ 0 (Nat.zero_le _)
  · rw [fill_0, ab_row_id] at this; exact this
  · refine r_M_tellWay_3 hT _ _ _ _ (Nat.le_refl _) (Nat.le_refl _) ?_
    refine bb_t ?_ g3
    rw [ab_row_ne (by decide), p1]; exact nI_le (Nat.le_refl _) (by omega)
  · intro i hi nx
    have hiS : ¬ S ≤ i := by omega
    refine r_M_tellWay_3 hT _ _ _ _ (Nat.le_refl _) (Nat.le_refl _) ?_
    simp (disch := first | omega | decide) only [p1, hiS, nl_add1, nl_add2, nl_mul1, nl_mul2, nl_sub1, nl_lt1, nl_lt2, nl_le1, nl_le2, nl_eq1, nl_eq2, nl_m1, nl_m2, nl_inT, nI_add, nI_mul, nI_leI, nI_ltI, nI_eq, nI_clamp, nl_bit, oI_n, oI_s, oI_m1, true_and, and_true, eq_self, Bool.false_eq_true, not_false_eq_true, not_true_eq_false, false_implies, true_implies, implies_true, forall_const, Nat.not_lt_zero, ab_row_eq, ab_row_ne, ab_up_i, ab_up_o, pk_us, pk_un, ab_row_row]
    refine ⟨fun e => ?_, fun e => ?_⟩
    · rw [ab_up_row, ab_row_row, ab_row_eq, fill_up (by rw [if_neg e])]; exact nx
    · rw [ab_up_row, ab_row_row, ab_row_eq, fill_up (by rw [if_pos e])]; exact nx
end TWY
