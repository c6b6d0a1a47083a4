/-! WHAT IS LOST with some cables -/
theorem sub_filter {p l : List Nat} (h : List.Sublist p l) (hn : l.Nodup) : p = l.filter (fun k => decide (k ∈ p)) := by
  induction h with
  | slnil => rfl
  | cons a h ih =>
    obtain ⟨h1, h2⟩ := List.nodup_cons.mp hn
    have hna : a ∉ _ := fun g => h1 (h.subset g)
    rw [List.filter_cons, if_neg (by simp [hna])]
    exact ih h2
  | cons_cons a h ih =>
    rename_i l1 l2
    obtain ⟨h1, h2⟩ := List.nodup_cons.mp hn
    rw [List.filter_cons, if_pos (by simp)]
    refine congrArg _ ?_
    have e : l2.filter (fun k => decide (k ∈ a :: l1)) = l2.filter (fun k => decide (k ∈ l1)) := List.filter_congr (fun k hk => by
      have hka : k ≠ a := fun e => h1 (e ▸ hk)
      simp [hka])
    rw [e]; exact ih h2
theorem filter_flip {pr : Nat → Nat} {p q : Nat → Bool} {a : Nat} : ∀ {l : List Nat}, l.Nodup → a ∈ l → p a = false → q a = true → (∀ k, k ≠ a → q k = p k) → (l.filter q).length = (l.filter p).length + 1 ∧ ((l.filter q).map pr).sum = ((l.filter p).map pr).sum + pr a := by
  intro l
  induction l with
  | nil => intro _ h; cases h
  | cons c l ih =>
    intro hn ha hp hq ho
    obtain ⟨h1, h2⟩ := List.nodup_cons.mp hn
    by_cases e : c = a
    · subst e
      have : l.filter q = l.filter p := List.filter_congr (fun k hk => ho k (fun e => h1 (e ▸ hk)))
      rw [List.filter_cons, if_pos hq, List.filter_cons, if_neg (by rw [hp]; decide), this, List.length_cons, List.map_cons, List.sum_cons]
      exact ⟨rfl, by omega⟩
    · have hm : a ∈ l := by
        rcases List.mem_cons.mp ha with h | h
        · exact absurd h.symm e
        · exact h
      obtain ⟨g1, g2⟩ := ih h2 hm hp hq ho
      have hc := ho c e
      cases hpc : p c with
      | true =>
        rw [List.filter_cons, if_pos (by rw [hc]; exact hpc), List.filter_cons, if_pos hpc, List.length_cons, List.length_cons, List.map_cons, List.sum_cons, List.map_cons, List.sum_cons]
        omega
      | false =>
        rw [List.filter_cons, if_neg (by rw [hc, hpc]; decide), List.filter_cons, if_neg (by rw [hpc]; decide)]
        exact ⟨g1, g2⟩
section LOS
variable {e1 e2 pr : Nat → Nat} {S N : Nat} {l : List Nat}
theorem net_filter (hl : od pr N l) (am : Nat → Bool) : net e1 e2 am l = l.filter (fun k => decide (k ∈ net e1 e2 am l)) := sub_filter ((kr_subl _).trans List.filter_sublist) (od_nodup hl)
theorem net_ext {am am' : Nat → Bool} (hl : od pr N l) (h : ∀ k, k ∈ net e1 e2 am l ↔ k ∈ net e1 e2 am' l) : net e1 e2 am l = net e1 e2 am' l := by
  rw [net_filter hl am, net_filter hl am']
  exact List.filter_congr (fun k _ => by
    have := h k
    by_cases g : k ∈ net e1 e2 am l
    · rw [decide_eq_true g, decide_eq_true (this.mp g)]
    · rw [decide_eq_false g, decide_eq_false (fun g' => g (this.mpr g'))])
theorem net_am {am am' : Nat → Bool} (hl : od pr N l) (h : ∀ k, k < N → am k = am' k) : net e1 e2 am l = net e1 e2 am' l := by
  unfold net
  rw [List.filter_congr (fun k hk => h k ((hl.2 k).mp hk))]
/-- without one cable -/
theorem rem_mem (hl : od pr N l) (hw : ∀ k, k < N → e1 k < S ∧ e2 k < S) (am : Nat → Bool) (k j : Nat) : j ∈ net e1 e2 (fun x => am x && !decide (x = k)) l ↔ in0 e1 e2 pr N am k j := by
  rw [net_mem (S := S) hl hw]
  unfold in0
  have e : ∀ x, (am x && !decide (x = k)) = true ↔ (am x = true ∧ x ≠ k) := fun x => by simp
  rw [e]
  have : ∀ c, (c < N ∧ (am c && !decide (c = k)) = true ∧ ch pr c j) ↔ (c < N ∧ (am c = true ∧ c ≠ k) ∧ ch pr c j) := fun c => by rw [e]
  rw [cn_congr this]
/-- what becomes of length and sum -/
theorem rem_one (hl : od pr N l) (hw : ∀ k, k < N → e1 k < S ∧ e2 k < S) (hp : ∀ q, q < N → 1 ≤ pr q ∧ pr q ≤ 999) {am : Nat → Bool} {k : Nat} {o : Option Nat} (hk : k < N) (ha : am k = true) (ho : pq e1 e2 pr N am k o) :
    (k ∉ net e1 e2 am l → net e1 e2 (fun x => am x && !decide (x = k)) l = net e1 e2 am l) ∧
    (k ∈ net e1 e2 am l → o = none → (net e1 e2 (fun x => am x && !decide (x = k)) l).length + 1 = (net e1 e2 am l).length) ∧
    (k ∈ net e1 e2 am l → ∀ q, o = some q → (net e1 e2 (fun x => am x && !decide (x = k)) l).length = (net e1 e2 am l).length ∧ ((net e1 e2 (fun x => am x && !decide (x = k)) l).map pr).sum + pr k = ((net e1 e2 am l).map pr).sum + pr q ∧ pr k ≤ pr q) := by
  have hmem := fun j => net_mem (S := S) hl hw am j
  have h0 := fun j => rem_mem (S := S) hl hw am k j
  have hpk := (hp k hk).2
  have hpp : ∀ q, q < N → 1 ≤ pr q := fun q hq => (hp q hq).1
  have sv := swp_v (v := pr k) hk ha ho hpk hpp
  have sj := fun {j} (hj : j ≠ k) => swp_j (v := pr k) (j := j) hk ha ho hpk hpp hj
  simp only [upd_self] at sv sj
  have nd := od_nodup hl
  have hkl : k ∈ l := (hl.2 k).mpr hk
  have k0 : ¬ in0 e1 e2 pr N am k k := fun h => h.2.1.2 rfl
  refine ⟨fun hn => ?_, fun hn he => ?_, fun hn q he => ?_⟩
  · refine net_ext hl (fun j => ?_)
    rw [h0]
    by_cases e : j = k
    · rw [e]; exact ⟨fun h => absurd h k0, fun h => absurd h hn⟩
    · rw [hmem]
      have hb : ¬ pr k ≤ brN pr k o := fun g => hn ((hmem k).mpr (sv.mpr g))
      have := sj e
      exact ⟨fun h => this.mpr ⟨h, fun g => absurd g hb⟩, fun h => (this.mp h).1⟩
  · subst he
    rw [net_filter hl am, net_filter hl (fun x => am x && !decide (x = k))]
    refine ((filter_flip (pr := pr) nd hkl (p := fun j => decide (j ∈ net e1 e2 (fun x => am x && !decide (x = k)) l)) (q := fun j => decide (j ∈ net e1 e2 am l)) (decide_eq_false (fun g => k0 ((h0 k).mp g))) (decide_eq_true hn) (fun j hj => ?_)).1).symm
    have := sj hj
    by_cases g : j ∈ net e1 e2 am l
    · rw [decide_eq_true g, decide_eq_true ((h0 j).mpr (this.mp ((hmem j).mp g)).1)]
    · rw [decide_eq_false g, decide_eq_false (fun g' => g ((hmem j).mpr (this.mpr ⟨(h0 j).mp g', fun _ e => by cases e⟩)))]
  · subst he
    have hb : pr k ≤ brN pr k (some q) := sv.mp ((hmem k).mp hn)
    have hqk : q ≠ k := ho.2.2.1
    have q0 : in0 e1 e2 pr N am k q := ⟨ho.1, ⟨ho.2.1, hqk⟩, ho.2.2.2.1⟩
    have hql : q ∈ l := (hl.2 q).mpr ho.1
    -- the net without both
    have f1 := filter_flip (pr := pr) nd hkl (p := fun j => decide (j ∈ net e1 e2 am l) && !decide (j = k)) (q := fun j => decide (j ∈ net e1 e2 am l)) (by simp) (decide_eq_true hn) (fun j hj => by simp [hj])
    have f2 := filter_flip (pr := pr) nd hql (p := fun j => decide (j ∈ net e1 e2 am l) && !decide (j = k)) (q := fun j => decide (j ∈ net e1 e2 (fun x => am x && !decide (x = k)) l)) (by
      have : q ∉ net e1 e2 am l := fun g => (sj hqk).mp ((hmem q).mp g) |>.2 hb rfl
      simp [this]) (decide_eq_true ((h0 q).mpr q0)) (fun j hj => by
      by_cases e : j = k
      · rw [e, decide_eq_false (fun g => k0 ((h0 k).mp g))]; simp
      · have := sj e
        by_cases g : j ∈ net e1 e2 am l
        · rw [decide_eq_true g, decide_eq_true ((h0 j).mpr (this.mp ((hmem j).mp g)).1)]; simp [e]
        · rw [decide_eq_false g, decide_eq_false (fun g' => g ((hmem j).mpr (this.mpr ⟨(h0 j).mp g', fun _ ee => hj (Option.some.inj ee).symm⟩)))]; rfl)
    rw [← net_filter hl am] at f1
    rw [← net_filter hl (fun x => am x && !decide (x = k))] at f2
    refine ⟨by omega, by omega, ?_⟩
    rw [brN_s] at hb
    split at hb <;> omega
theorem pq_ex (am : Nat → Bool) (k : Nat) (hl : od pr N l) (hw : ∀ k, k < N → e1 k < S ∧ e2 k < S) (hne : ∀ k, k < N → e1 k ≠ e2 k) (hk : k < N) (ha : am k = true) : ∃ o, pq e1 e2 pr N am k o := by
  by_cases hc : cn e1 e2 (fun j => j < N ∧ am j = true ∧ j ≠ k) (e1 k) (e2 k)
  · -- the dearest of the way in the net without k
    have hf : fo e1 e2 (net e1 e2 (fun x => am x && !decide (x = k)) l).reverse := kr_fo _ (fun j hj => hw j ((hl.2 j).mp (List.mem_filter.mp hj).1))
    have hsp : cn e1 e2 (fun j => j ∈ (net e1 e2 (fun x => am x && !decide (x = k)) l).reverse) (e1 k) (e2 k) := by
      have := (net_span (S := S) hl hw (fun x => am x && !decide (x = k)) (e1 k) (e2 k)).mpr (cn_mono (fun j hj => ⟨hj.1, by simp [hj.2.1, hj.2.2]⟩) hc)
      exact cn_mono (fun j hj => List.mem_reverse.mpr hj) this
    obtain ⟨p, hp⟩ := pth_cn.mpr hsp
    have hpne : p ≠ [] := fun e => hne k hk (pt_nil (by rw [e] at hp; exact pth_pt hp))
    obtain ⟨c, hd⟩ := dst_ex (pr := pr) hpne
    obtain ⟨p1, p2, e⟩ := List.append_of_mem hd.1
    have hnd := pt_nodup hf (pth_pt hp)
    have hin : ∀ j ∈ p, in0 e1 e2 pr N am k j := fun j hj => (rem_mem (S := S) hl hw am k j).mp (List.mem_reverse.mp (pt_mem (pth_pt hp) j hj).1)
    have split : ∀ (p1 : List Nat) (x : Nat), pt e1 e2 (net e1 e2 (fun x => am x && !decide (x = k)) l).reverse x (e2 k) (p1 ++ c :: p2) → ∃ a b, cn e1 e2 (fun j => j ∈ p1) x a ∧ ed e1 e2 c a b ∧ cn e1 e2 (fun j => j ∈ p2) b (e2 k) := by
      intro p1
      induction p1 with
      | nil =>
        intro x h
        obtain ⟨b, h1, h2⟩ := pt_head h
        exact ⟨x, b, cn_refl, h1, pt_cnp h2⟩
      | cons z p1 ih =>
        intro x h
        obtain ⟨b, h1, h2⟩ := pt_head h
        obtain ⟨a, b', g1, g2, g3⟩ := ih b h2
        exact ⟨a, b', cn_trans (ed_cn h1 List.mem_cons_self) (cn_mono (fun j hj => List.mem_cons_of_mem _ hj) g1), g2, g3⟩
    obtain ⟨a, b, g1, g2, g3⟩ := split p1 (e1 k) (by rw [← e]; exact pth_pt hp)
    rw [e, List.nodup_append, List.nodup_cons] at hnd
    have hc0 := hin c hd.1
    have c1 : ∀ j ∈ p1, j < N ∧ (am j = true ∧ j ≠ k) ∧ ch pr j c := fun j hj => by
      have hjp : j ∈ p := by rw [e]; exact List.mem_append_left _ hj
      have := hin j hjp
      exact ⟨this.1, this.2.1, (hd.2 j hjp).resolve_left (fun ee => hnd.2.2 j hj c List.mem_cons_self ee)⟩
    have c2 : ∀ j ∈ p2, j < N ∧ (am j = true ∧ j ≠ k) ∧ ch pr j c := fun j hj => by
      have hjp : j ∈ p := by rw [e]; exact List.mem_append_right _ (List.mem_cons_of_mem _ hj)
      have := hin j hjp
      refine ⟨this.1, this.2.1, (hd.2 j hjp).resolve_left (fun ee => ?_)⟩
      rw [ee] at hj; exact hnd.2.1.1 hj
    exact ⟨some c, hc0.1, hc0.2.1.1, hc0.2.1.2, hc0.2.2, a, b, g2, cn_mono c1 g1, cn_mono c2 g3⟩
  · exact ⟨none, hc⟩
/-- without some cables: never longer, and not cheaper -/
theorem rem_many (hl : od pr N l) (hw : ∀ k, k < N → e1 k < S ∧ e2 k < S) (hne : ∀ k, k < N → e1 k ≠ e2 k) (hp : ∀ q, q < N → 1 ≤ pr q ∧ pr q ≤ 999) (am xo : Nat → Bool) : (net e1 e2 (fun k => am k && !xo k) l).length ≤ (net e1 e2 am l).length ∧ ((net e1 e2 (fun k => am k && !xo k) l).length = (net e1 e2 am l).length → ((net e1 e2 am l).map pr).sum ≤ ((net e1 e2 (fun k => am k && !xo k) l).map pr).sum) := by
  have key : ∀ i, i ≤ N → (net e1 e2 (fun k => am k && !(xo k && decide (k < i))) l).length ≤ (net e1 e2 am l).length ∧ ((net e1 e2 (fun k => am k && !(xo k && decide (k < i))) l).length = (net e1 e2 am l).length → ((net e1 e2 am l).map pr).sum ≤ ((net e1 e2 (fun k => am k && !(xo k && decide (k < i))) l).map pr).sum) := by
    intro i
    induction i with
    | zero =>
      intro _
      have : net e1 e2 (fun k => am k && !(xo k && decide (k < 0))) l = net e1 e2 am l := net_am hl (fun k _ => by simp)
      rw [this]; exact ⟨Nat.le_refl _, fun _ => Nat.le_refl _⟩
    | succ i ih =>
      intro hi
      obtain ⟨h1, h2⟩ := ih (by omega)
      generalize hA : (fun k => am k && !(xo k && decide (k < i))) = A at *
      by_cases c : A i = true ∧ xo i = true
      · obtain ⟨o, ho⟩ := pq_ex (am := A) i hl hw hne (by omega) c.1
        obtain ⟨r1, r2, r3⟩ := rem_one (S := S) hl hw hp (show i < N by omega) c.1 ho
        have e : net e1 e2 (fun k => am k && !(xo k && decide (k < i + 1))) l = net e1 e2 (fun x => A x && !decide (x = i)) l := net_am hl (fun k _ => by
          rw [← hA]
          by_cases ek : k = i
          · rw [ek, c.2]; simp
          · have : decide (k < i + 1) = decide (k < i) := by
              by_cases g : k < i
              · rw [decide_eq_true g, decide_eq_true (by omega)]
              · rw [decide_eq_false g, decide_eq_false (by omega)]
            simp [this, ek])
        rw [e]
        by_cases hin : i ∈ net e1 e2 A l
        · cases o with
          | none => have := r2 hin rfl; exact ⟨by omega, fun g => by omega⟩
          | some q => have := r3 hin q rfl; exact ⟨by omega, fun g => by have := h2 (by omega); omega⟩
        · rw [r1 hin]; exact ⟨h1, h2⟩
      · have e : net e1 e2 (fun k => am k && !(xo k && decide (k < i + 1))) l = net e1 e2 A l := net_am hl (fun k _ => by
          rw [← hA]
          by_cases ek : k = i
          · rw [ek]
            rw [← hA] at c
            simp at c ⊢
            intro ha; simp [c ha]
          · have : decide (k < i + 1) = decide (k < i) := by
              by_cases g : k < i
              · rw [decide_eq_true g, decide_eq_true (by omega)]
              · rw [decide_eq_false g, decide_eq_false (by omega)]
            rw [this])
        rw [e]; exact ⟨h1, h2⟩
  have e : net e1 e2 (fun k => am k && !xo k) l = net e1 e2 (fun k => am k && !(xo k && decide (k < N))) l := net_am hl (fun k hk => by rw [decide_eq_true hk, Bool.and_true])
  rw [e]; exact key N (Nat.le_refl _)
/-- the sites come apart just where some cable's ends do -/
theorem ap_iff (hl : od pr N l) (hw : ∀ k, k < N → e1 k < S ∧ e2 k < S) {am am' : Nat → Bool} (hsub : ∀ k, am' k = true → am k = true) : (net e1 e2 am' l).length < (net e1 e2 am l).length ↔ ∃ k, k < N ∧ am k = true ∧ ¬ cn e1 e2 (fun j => j < N ∧ am' j = true) (e1 k) (e2 k) := by
  have hew : ∀ am : Nat → Bool, ew e1 e2 S (l.filter am) := fun am k hk => hw k ((hl.2 k).mp (List.mem_filter.mp hk).1)
  have hm : ∀ am : Nat → Bool, ∀ k, k ∈ l.filter am ↔ (k < N ∧ am k = true) := fun am k => by rw [List.mem_filter, hl.2]
  have c1 := kr_cnt _ (hew am)
  have c2 := kr_cnt _ (hew am')
  have k1 := kr_kp _ (hew am)
  have k2 := kr_kp _ (hew am')
  have up : ∀ {x y}, cn e1 e2 (fun k => k ∈ l.filter am') x y → cn e1 e2 (fun k => k ∈ l.filter am) x y := fun h => cn_mono (fun k hk => (hm am k).mpr ⟨((hm am' k).mp hk).1, hsub k ((hm am' k).mp hk).2⟩) h
  show (kr e1 e2 (l.filter am')).1.length < (kr e1 e2 (l.filter am)).1.length ↔ _
  generalize kr e1 e2 (l.filter am) = A at *
  generalize kr e1 e2 (l.filter am') = B at *
  have root : ∀ x, x < S → A.2 x = x → B.2 x = x := fun x hx h => by
    have hb := k2.2.1 x
    have hbx : B.2 x < S := by omega
    have : cn e1 e2 (fun k => k ∈ l.filter am') (B.2 x) x := (k2.1 _ _ hbx hx).mp (k2.2.2.1 x)
    have := (k1.1 _ _ hbx hx).mpr (up this)
    have := k1.2.1 (B.2 x)
    omega
  constructor
  · intro hlt
    refine Classical.byContradiction fun hno => ?_
    have all : ∀ x y, cn e1 e2 (fun k => k ∈ l.filter am) x y → cn e1 e2 (fun k => k ∈ l.filter am') x y := fun x y h => cn_of_all (fun k hk => by
      have hk' := (hm am k).mp hk
      exact (cn_congr (hm am')).mpr (Classical.byContradiction fun g => hno ⟨k, hk'.1, hk'.2, g⟩)) h
    have : fa_cnt (fun x => decide (B.2 x = x)) S = fa_cnt (fun x => decide (A.2 x = x)) S := fa_cnt_cong (fun x hx => by
      by_cases g : A.2 x = x
      · rw [decide_eq_true g, decide_eq_true (root x hx g)]
      · rw [decide_eq_false g, decide_eq_false (fun g' => ?_)]
        have ha := k1.2.1 x
        have hax : A.2 x < S := by omega
        have h1 := (k1.1 _ _ hax hx).mp (k1.2.2.1 x)
        have h2 := (k2.1 _ _ hax hx).mpr (all _ _ h1)
        have h3 := k2.2.1 (A.2 x)
        omega)
    omega
  · rintro ⟨k, hk, ha, hn⟩
    obtain ⟨b1, b2⟩ := hw k hk
    have hA : A.2 (e1 k) = A.2 (e2 k) := (k1.1 _ _ b1 b2).mpr (cn_edge ((hm am k).mpr ⟨hk, ha⟩))
    have hB : B.2 (e1 k) ≠ B.2 (e2 k) := fun g => hn ((cn_congr (hm am')).mp ((k2.1 _ _ b1 b2).mp g))
    have l1 : B.2 (e1 k) < S := Nat.lt_of_le_of_lt (k2.2.1 _) b1
    have l2 : B.2 (e2 k) < S := Nat.lt_of_le_of_lt (k2.2.1 _) b2
    have s1 : A.2 (B.2 (e1 k)) = A.2 (e1 k) := (k1.1 _ _ l1 b1).mpr (up ((k2.1 _ _ l1 b1).mp (k2.2.2.1 _)))
    have s2 : A.2 (B.2 (e2 k)) = A.2 (e2 k) := (k1.1 _ _ l2 b2).mpr (up ((k2.1 _ _ l2 b2).mp (k2.2.2.1 _)))
    have hex : ∃ a, a < S ∧ B.2 a = a ∧ A.2 a ≠ a := by
      by_cases g : A.2 (B.2 (e1 k)) = B.2 (e1 k)
      · refine ⟨B.2 (e2 k), l2, k2.2.2.1 _, fun g' => hB ?_⟩
        rw [← g, ← g', s1, s2, hA]
      · exact ⟨B.2 (e1 k), l1, k2.2.2.1 _, g⟩
    obtain ⟨a, a1, a2, a3⟩ := hex
    have := cnt_lt (p := fun x => decide (A.2 x = x)) (q := fun x => decide (B.2 x = x)) (a := a) (n := S) (fun x hx h => decide_eq_true (root x hx (of_decide_eq_true h))) a1 (decide_eq_true a2) (decide_eq_false a3)
    omega
end LOS
