/-! LIKE NETS: the class -/
theorem kp_uq {e1 e2 : Nat → Nat} {S : Nat} {pc pc' : Nat → Nat} {E E' : Nat → Prop} (h : kp e1 e2 S pc E) (h' : kp e1 e2 S pc' E') (hE : ∀ k, E k ↔ E' k) : pc = pc' := by
  have key : ∀ {pc pc' : Nat → Nat} {E E' : Nat → Prop}, kp e1 e2 S pc E → kp e1 e2 S pc' E' → (∀ k, E k ↔ E' k) → ∀ x, x < S → pc' x ≤ pc x := by
    intro pc pc' E E' h h' hE x hx
    have hpx : pc x < S := Nat.lt_of_le_of_lt (h.2.1 x) hx
    have c1 : cn e1 e2 E (pc x) x := (h.1 _ _ hpx hx).mp (h.2.2.1 x)
    have c2 : pc' (pc x) = pc' x := (h'.1 _ _ hpx hx).mpr ((cn_congr hE).mp c1)
    have := h'.2.1 (pc x)
    omega
  funext x
  by_cases hx : x < S
  · exact Nat.le_antisymm (key h' h (fun k => (hE k).symm) x hx) (key h h' hE x hx)
  · rw [h.2.2.2 x (by omega), h'.2.2.2 x (by omega)]
noncomputable def pcf (e1 e2 : Nat → Nat) (N : Nat) (am : Nat → Bool) : Nat → Nat := (kr e1 e2 ((List.range N).filter am)).2
theorem pcf_kp {e1 e2 : Nat → Nat} {S N : Nat} (hw : ∀ k, k < N → e1 k < S ∧ e2 k < S) (am : Nat → Bool) : kp e1 e2 S (pcf e1 e2 N am) (fun k => k < N ∧ am k = true) := by
  have h := kr_kp (e1 := e1) (e2 := e2) (S := S) ((List.range N).filter am) (fun k hk => hw k (List.mem_range.mp (List.mem_filter.mp hk).1))
  have hm : ∀ k, k ∈ (List.range N).filter am ↔ (k < N ∧ am k = true) := fun k => by rw [List.mem_filter, List.mem_range]
  exact ⟨fun x y hx hy => by rw [← cn_congr hm]; exact h.1 x y hx hy, h.2⟩
theorem pcf_congr {e1 e2 : Nat → Nat} {N : Nat} {am am' : Nat → Bool} (h : ∀ k, k < N → am k = am' k) : pcf e1 e2 N am = pcf e1 e2 N am' := by
  unfold pcf
  rw [List.filter_congr (fun k hk => h k (List.mem_range.mp hk))]
theorem lapS_congr {pb e1 e2 : Nat → Nat} {N : Nat} {lk lk' : Nat → Bool} (h : ∀ k, k < N → lk k = lk' k) (s t : Nat) : lapS pb e1 e2 N lk s t = lapS pb e1 e2 N lk' s t := smI_cong (fun k hk => by rw [h k hk])
def lsv (sd : Nat → Bool) (pr : Nat → Nat) (v k : Nat) : Bool := sd k && decide (pr k < v)
def lkv (sd : Nat → Bool) (pr : Nat → Nat) (v k : Nat) : Bool := sd k && decide (pr k = v)
noncomputable def rsV (e1 e2 pr : Nat → Nat) (N : Nat) (sd : Nat → Bool) (v : Nat) : List Nat := rsL (pcf e1 e2 N (lsv sd pr v)) (pcf e1 e2 N (fun k => lsv sd pr v k || lkv sd pr v k)) 10
noncomputable def aV (e1 e2 pr : Nat → Nat) (N : Nat) (sd : Nat → Bool) (v i j : Nat) : Int := lapS (pcf e1 e2 N (lsv sd pr v)) e1 e2 N (lkv sd pr v) ((rsV e1 e2 pr N sd v).getD i 0) ((rsV e1 e2 pr N sd v).getD j 0)
noncomputable def Wv (e1 e2 pr : Nat → Nat) (N : Nat) (sd : Nat → Bool) (v : Nat) : Int := pv (aV e1 e2 pr N sd v) (rsV e1 e2 pr N sd v).length
noncomputable def prW (e1 e2 pr : Nat → Nat) (N : Nat) (sd : Nat → Bool) : Nat → Int64
  | 0 => 1
  | v + 1 => prW e1 e2 pr N sd v * lI (Wv e1 e2 pr N sd (v + 1))
section LKE
variable {e1 e2 pr : Nat → Nat} {N S : Nat} {sd : Nat → Bool}
theorem W_none {v : Nat} (h : ∀ k, k < N → lkv sd pr v k = false) : Wv e1 e2 pr N sd v = 1 := by
  have e : rsV e1 e2 pr N sd v = [] := by
    unfold rsV
    rw [pcf_congr (am := fun k => lsv sd pr v k || lkv sd pr v k) (am' := lsv sd pr v) (fun k hk => by rw [h k hk, Bool.or_false])]
    refine List.eq_nil_iff_forall_not_mem.mpr (fun s hs => ?_)
    have := rsL_mem.mp hs
    exact this.2.2 this.2.1
  unfold Wv
  rw [e]; exact pv_0
theorem W_gnd (hw : ∀ k, k < N → e1 k < S ∧ e2 k < S) (hN : N ≤ 24) (hS : S ≤ 10) (v : Nat) : gnd (aV e1 e2 pr N sd v) 0 (rsV e1 e2 pr N sd v).length ∧ ∃ f : Nat → Nat, (∀ i, i < (rsV e1 e2 pr N sd v).length → aV e1 e2 pr N sd v i i = (f i : Int)) ∧ smf f (rsV e1 e2 pr N sd v).length ≤ 48 := by
  have ka := pcf_kp (S := S) hw (fun k => lsv sd pr v k || lkv sd pr v k)
  refine lap_gnd (rs := rsV e1 e2 pr N sd v) (pcf_kp hw (lsv sd pr v)) ka hw rsL_nd (fun s => ?_) hN
  unfold rsV
  rw [rsL_mem]
  constructor
  · rintro ⟨h1, h2, h3⟩
    exact ⟨Nat.lt_of_not_le fun g => h3 (ka.2.2.2 s g), h2, h3⟩
  · rintro ⟨h1, h2, h3⟩
    exact ⟨by omega, h2, h3⟩
theorem prW_skip {u : Nat} : ∀ {v}, u ≤ v → (∀ x, u < x → x ≤ v → ∀ k, k < N → lkv sd pr x k = false) → prW e1 e2 pr N sd v = prW e1 e2 pr N sd u := by
  intro v
  induction v with
  | zero => intro h _; rw [show u = 0 by omega]
  | succ v ih =>
    intro h hn
    by_cases e : u = v + 1
    · rw [e]
    · rw [prW, W_none (hn (v + 1) (by omega) (Nat.le_refl _)), lI_1, Int64.mul_one]
      exact ih (by omega) (fun x h1 h2 => hn x h1 (by omega))
theorem smI_add1 {f g : Nat → Int} {c : Nat} : ∀ {n}, c < n → (∀ k, k ≠ c → g k = f k) → f c = 0 → smI g n = smI f n + g c := by
  intro n
  induction n with
  | zero => intro h; omega
  | succ n ih =>
    intro h h1 h2
    rw [smI, smI]
    by_cases e : c = n
    · subst e
      rw [smI_cong (f := g) (g := f) (fun k hk => h1 k (by omega)), h2]; omega
    · rw [ih (by omega) h1 h2, h1 n (fun h => e h.symm)]; omega
end LKE
theorem lI_p (z : Int) : lI z + 1 = lI (z + 1) := by unfold lI; rw [Int64.ofInt_add]; rfl
theorem lI_m (z : Int) : lI z - 1 = lI (z - 1) := by unfold lI; rw [Int64.ofInt_sub]; rfl
theorem lI_m1 (z : Int) : lI z + (-1) = lI (z - 1) := by
  rw [← lI_m]
  exact (Int64.sub_eq_add_neg (lI z) 1).symm
section KLJ
variable {w : ab_Wd} {d n nc ns : Nat} {I : Nat → Nat → Int32} {L : Nat → Nat → Int64}
variable {S N : Nat} {sd : Nat → Bool} {e1 e2 pr fm : Nat → Nat} {l : List Nat}
theorem k_enter (hT : w.1.stackTraces = false) {pb pa : Nat → Nat} {Lp : Nat → Nat → Int} {c : Nat} {Eb Ea : Nat → Prop} (hS : S ≤ 10) (c1 : e1 c < S) (c2 : e2 c < S) (hb : ∀ x, x < 10 → I kx_likes_before x = nI (pb x)) (ha : ∀ x, x < 10 → I kx_likes_behind x = nI (pa x)) (kb : kp e1 e2 S pb Eb) (ka : kp e1 e2 S pa Ea) (hsub : ∀ k, Eb k → Ea k) (hL : ∀ s t, s < 10 → t < 10 → L kx_likes_matrix (s * 10 + t) = lI (Lp s t)) :
    ∃ J L' pa', (∀ a, a ≠ kx_likes_behind → J a = I a) ∧ lfr L' L kx_likes_matrix ∧ (∀ x, x < 10 → J kx_likes_behind x = nI (pa' x)) ∧ kp e1 e2 S pa' (fun k => Ea k ∨ k = c) ∧ (∀ s t, s < 10 → t < 10 → L' kx_likes_matrix (s * 10 + t) = lI (Lp s t + ctr (pb (e1 c)) (pb (e2 c)) s t)) ∧ ab_C w (d + 2) mt_Likes_enter [.ref kx_likes, .int (nI (e1 c)), .int (nI (e2 c))] (I, L, ab_RR, n, nc, ns) (.inl none, (J, L', ab_RR, n, nc, ns)) := by
  have hb1 := hb (e1 c) (by omega)
  have hb2 := hb (e2 c) (by omega)
  have l1 : pb (e1 c) < S := Nat.lt_of_le_of_lt (kb.2.1 _) c1
  have l2 : pb (e2 c) < S := Nat.lt_of_le_of_lt (kb.2.1 _) c2
  have a1 : pa (pb (e1 c)) = pa (e1 c) := (ka.1 _ _ l1 c1).mpr (cn_mono hsub ((kb.1 _ _ l1 c1).mp (kb.2.2.1 _)))
  have a2 : pa (pb (e2 c)) = pa (e2 c) := (ka.1 _ _ l2 c2).mpr (cn_mono hsub ((kb.1 _ _ l2 c2).mp (kb.2.2.1 _)))
  by_cases e : pb (e1 c) = pb (e2 c)
  · refine ⟨I, L, pa, fun _ _ => rfl, fun _ _ => rfl, ha, ⟨fun x y hx hy => ?_, ka.2⟩, fun s t hs ht => ?_, ?_⟩
    · rw [ka.1 x y hx hy, cn_add_red (cn_mono hsub ((kb.1 _ _ c1 c2).mp e))]
    · rw [hL s t hs ht]
      unfold ctr
      rw [if_pos e, Int.add_zero]
    · refine ab_C_of (by decide) rfl (Nat.le_of_ble_eq_true rfl) hT ?_
      refine r_Likes_enter_0 hT _ _ (Nat.le_refl _) (Nat.le_refl _) ?_
      simp (disch := first | omega | decide) only [hb1, hb2, e, nl_add1, nl_add2, nl_mul1, nl_mul2, nl_sub1, nl_lt1, nl_lt2, nl_le1, nl_le2, nl_eq1, nl_eq2, nl_m1, nl_m2, nl_inT, nI_add, nI_mul, nI_leI, nI_ltI, nI_eq, nI_clamp, nl_bit, oI_n, oI_s, oI_m1, true_and, and_true, eq_self, Bool.false_eq_true, not_false_eq_true, not_true_eq_false, false_implies, true_implies, implies_true, forall_const, Nat.not_lt_zero, ab_row_eq, ab_row_ne, ab_up_i, ab_up_o, pk_us, pk_un, ab_row_row]
  · generalize hu : pb (e1 c) = u at *
    generalize hv : pb (e2 c) = v at *
    have hvu : ¬ v = u := fun h => e h.symm
    have n1 : ¬ v * 10 + v = u * 10 + u := by omega
    have n2 : ¬ u * 10 + v = v * 10 + v := by omega
    have n3 : ¬ u * 10 + v = u * 10 + u := by omega
    have n4 : ¬ v * 10 + u = u * 10 + v := by omega
    have n5 : ¬ v * 10 + u = v * 10 + v := by omega
    have n6 : ¬ v * 10 + u = u * 10 + u := by omega
    have m1 := hL u u (by omega) (by omega)
    have m2 := hL v v (by omega) (by omega)
    have m3 := hL u v (by omega) (by omega)
    have m4 := hL v u (by omega) (by omega)
    generalize hL' : ab_upL (ab_upL (ab_upL (ab_upL L kx_likes_matrix (u * 10 + u) (lI (Lp u u + 1))) kx_likes_matrix (v * 10 + v) (lI (Lp v v + 1))) kx_likes_matrix (u * 10 + v) (lI (Lp u v - 1))) kx_likes_matrix (v * 10 + u) (lI (Lp v u - 1)) = L'
    have fr : lfr L' L kx_likes_matrix := fun a ha => by rw [← hL', upL_o ha, upL_o ha, upL_o ha, upL_o ha]
    have vals : ∀ s t, s < 10 → t < 10 → L' kx_likes_matrix (s * 10 + t) = lI (Lp s t + ctr u v s t) := fun s t hs ht => by
      rw [← hL', upL_i, upL_i, upL_i, upL_i]
      unfold ctr
      rw [if_neg e]
      by_cases q4 : s = v ∧ t = u
      · rw [q4.1, q4.2, updL_s, if_neg hvu, if_neg (fun h : v = u ∧ u = v => hvu h.1), if_pos ⟨rfl, rfl⟩]; rfl
      · rw [updL_n (by omega)]
        by_cases q3 : s = u ∧ t = v
        · rw [q3.1, q3.2, updL_s, if_neg e, if_pos ⟨rfl, rfl⟩, if_neg (fun h : u = v ∧ v = u => e h.1)]; rfl
        · rw [updL_n (by omega)]
          by_cases q2 : s = v ∧ t = v
          · rw [q2.1, q2.2, updL_s, if_pos rfl, if_neg hvu, if_pos rfl]; rfl
          · rw [updL_n (by omega)]
            by_cases q1 : s = u ∧ t = u
            · rw [q1.1, q1.2, updL_s, if_pos rfl, if_pos rfl, if_neg e]; rfl
            · rw [updL_n (by omega), hL s t hs ht]
              by_cases st : s = t
              · rw [if_pos st, if_neg (fun h => q1 ⟨h, st.symm.trans h⟩), if_neg (fun h => q2 ⟨h, st.symm.trans h⟩)]; rw [Int.add_zero, Int.add_zero]
              · rw [if_neg st, if_neg q3, if_neg q4, show -((0 : Int) + 0) = 0 from rfl, Int.add_zero]
    have row : ∀ {r : Int32} {J : Nat → Nat → Int32}, ab_C w (d + 1) mt_K_unite [.ref kx_likes_behind, .int (nI u), .int (nI v)] (I, L', ab_RR, n, nc, ns) (.inl (some (.int r)), (J, L', ab_RR, n, nc, ns)) → ab_C w (d + 2) mt_Likes_enter [.ref kx_likes, .int (nI (e1 c)), .int (nI (e2 c))] (I, L, ab_RR, n, nc, ns) (.inl none, (J, L', ab_RR, n, nc, ns)) := fun {r} {J} hu => by
      rw [← hL'] at hu ⊢
      refine ab_C_of (by decide) rfl (Nat.le_of_ble_eq_true rfl) hT ?_
      refine r_Likes_enter_0 hT _ _ (Nat.le_refl _) (Nat.le_refl _) ?_
      simp (disch := first | omega | decide) only [hb1, hb2, e, m1, m2, m3, m4, upL_i, updL_s, updL_n, n1, n2, n3, n4, n5, n6, lI_p, lI_m, nl_add1, nl_mul1, nI_add, nI_clamp, nl_inT, nI_eq, true_and, not_false_eq_true, true_implies, false_implies, and_true]
      exact ⟨r, J, hu, rfl⟩
    by_cases ep : pa (e1 c) = pa (e2 c)
    · have un := u2_eq (w := w) (d := d) (n := n) (nc := nc) (ns := ns) (I := I) (L := L') hT (pc := pa) (a := u) (b := v) ha ka.2.1 (by omega) (by omega) (by rw [a1, a2]; exact ep)
      refine ⟨I, L', pa, fun _ _ => rfl, fr, ha, ⟨fun x y hx hy => ?_, ka.2⟩, vals, row un⟩
      rw [ka.1 x y hx hy, cn_add_red ((ka.1 _ _ c1 c2).mp ep)]
    · have un := u2_ne (w := w) (d := d) (n := n) (nc := nc) (ns := ns) (I := I) (L := L') hT (pc := pa) (a := u) (b := v) ha ka.2.1 (by omega) (by omega) (by rw [a1, a2]; exact ep)
      refine ⟨_, L', mg pa (pa (e1 c)) (pa (e2 c)), fun a ha => ab_row_ne ha, fr, fun x hx => ?_, kp_mg ka c1 c2 ep, vals, row un⟩
      rw [ab_row_eq]
      unfold un_row
      rw [if_pos ⟨hx, hx⟩, a1, a2]
theorem k_pass (hT : w.1.stackTraces = false) {pa : Nat → Nat} (ha : ∀ x, x < 10 → I kx_likes_behind x = nI (pa x)) : ∃ J L', (∀ a, a ≠ kx_likes_before → J a = I a) ∧ (∀ x, x < 10 → J kx_likes_before x = nI (pa x)) ∧ lfr L' L kx_likes_matrix ∧ (∀ k, k < 100 → L' kx_likes_matrix k = 0) ∧ ab_C w (d + 1) mt_Likes_passPrice [.ref kx_likes] (I, L, ab_RR, n, nc, ns) (.inl none, (J, L', ab_RR, n, nc, ns)) := by
  obtain ⟨L', g1, g2, g3⟩ := k_clear (w := w) (d := d) (n := n) (nc := nc) (ns := ns) (I := ab_row I kx_likes_before (va_cpy (I kx_likes_behind) (I kx_likes_before) 0 0 10)) (L := L) hT
  refine ⟨ab_row I kx_likes_before (va_cpy (I kx_likes_behind) (I kx_likes_before) 0 0 10), L', fun a h => ab_row_ne h, fun x hx => ?_, g1, g2, ?_⟩
  · rw [ab_row_eq]
    unfold va_cpy
    rw [if_pos (by omega), Nat.sub_zero, Nat.zero_add]; exact ha x hx
  · refine ab_C_of (by decide) rfl (Nat.le_of_ble_eq_true rfl) hT ?_
    refine r_Likes_passPrice_0 hT (Nat.le_refl _) (Nat.le_refl _) ?_
    exact ⟨L', g3, rfl⟩
/-- what the class's counting leaves as it is -/
def kfrL (J I : Nat → Nat → Int32) : Prop := ∀ a, a ≠ kx_likes_before → a ≠ kx_likes_behind → a ≠ kx_likes_rows → J a = I a
theorem k_countNets (hT : w.1.stackTraces = false) (hc : kC I S N sd e1 e2 pr fm l) : ∃ J L', kfrL J I ∧ lfr L' L kx_likes_matrix ∧ ab_C w (d + 3) mt_Likes_countNets [.ref kx_likes, .ref kx_now_cables] (I, L, ab_RR, n, nc, ns) (.inl (some (.long (prW e1 e2 pr N sd 999))), (J, L', ab_RR, n, nc, ns)) := by
  obtain ⟨⟨p1, p2, p3, p4, p5, p6, p7, p8⟩, c2, c3, c4, c5, c6⟩ := hc
  have hw : ∀ k, k < N → e1 k < S ∧ e2 k < S := fun k hk => ⟨(p8 k hk).2.2.2.1, (p8 k hk).2.2.2.2.1⟩
  have hlen : l.length = N := p5
  -- the state at a place of the row
  generalize hInv : (fun (i v : Nat) (J : Nat → Nat → Int32) (L1 : Nat → Nat → Int64) => kfrL J I ∧ lfr L1 L kx_likes_matrix ∧ 1 ≤ v ∧ v ≤ 999 ∧ (∀ k ∈ l.take i, pr k ≤ v) ∧ (∀ k ∈ l.drop i, v ≤ pr k) ∧ (∀ x, x < 10 → J kx_likes_before x = nI (pcf e1 e2 N (lsv sd pr v) x)) ∧ (∀ x, x < 10 → J kx_likes_behind x = nI (pcf e1 e2 N (fun k => sd k && decide (k ∈ l.take i)) x)) ∧ ∀ s t, s < 10 → t < 10 → L1 kx_likes_matrix (s * 10 + t) = lI (lapS (pcf e1 e2 N (lsv sd pr v)) e1 e2 N (fun k => lkv sd pr v k && decide (k ∈ l.take i)) s t)) = Inv
  have loop : ∀ m i v (J : Nat → Nat → Int32) (L1 : Nat → Nat → Int64), i + m + 1 = N → pr (l.getD i 0) = v → Inv i v J L1 → ∃ J' L', kfrL J' I ∧ lfr L' L kx_likes_matrix ∧ ab_E w ((d + 2) + 1) mt_Likes_countNets 37 [.ref kx_likes, .ref kx_now_cables, .long (prW e1 e2 pr N sd (v - 1)), .null, .int (nI i), .null, .null] [] (J, L1, ab_RR, n, nc, ns) (.inl (some (.long (prW e1 e2 pr N sd 999))), (J', L', ab_RR, n, nc, ns)) := by
    intro m
    induction m using Nat.strongRecOn with
    | ind m ihm =>
      intro i v J L1 him hv hI
      have hI' := hI
      rw [← hInv] at hI'
      obtain ⟨i1, i2, i3, i4, i5, i6, i7, i8, i9⟩ := hI'
      have hiN : ¬ N ≤ i := by omega
      have ts := take_snoc (p := l) (i := i) (by omega)
      have hcl := getD_mem (Q := l) (j := i) (by omega)
      have hcN := p7 _ hcl
      have hordI := p6 i (by omega)
      generalize hcc : l.getD i 0 = c at *
      obtain ⟨q1, q2, q3, q4, q5, q6⟩ := p8 c hcN
      have rd : ∀ a, a ≠ kx_likes_before → a ≠ kx_likes_behind → a ≠ kx_likes_rows → J a = I a := i1
      have r1 : J kx_now_cables 1 = nI N := by rw [rd _ (by decide) (by decide) (by decide)]; exact p2
      have ro : J kx_now_cables_order i = nI c := by rw [rd _ (by decide) (by decide) (by decide)]; exact hordI
      have rs' : bt (J kx_now_cables 2) c = sd c := by rw [rd _ (by decide) (by decide) (by decide)]; exact c4 c (by omega)
      have rf : J kx_now_cables_first c = nI (e1 c) := by rw [rd _ (by decide) (by decide) (by decide)]; exact q1
      have rs2 : J kx_now_cables_second c = nI (e2 c) := by rw [rd _ (by decide) (by decide) (by decide)]; exact q2
      have nd := od_nodup c2
      have hcni : c ∉ l.take i := fun h => by
        have e := take_drop_at (p := l) (i := i) (by omega)
        rw [hcc] at e
        rw [e, List.nodup_append] at nd
        exact nd.2.2 c h c List.mem_cons_self rfl
      have dsplit : ∀ k ∈ l.drop (i + 1), v ≤ pr k := fun k hk => i6 k (List.mem_of_mem_drop (show k ∈ (l.drop i).drop 1 by rw [List.drop_drop]; exact hk))
      -- what is known behind the cable, whichever it was
      have after : ∀ (J2 : Nat → Nat → Int32) (L2 : Nat → Nat → Int64), kfrL J2 I → lfr L2 L kx_likes_matrix → (∀ x, x < 10 → J2 kx_likes_before x = nI (pcf e1 e2 N (lsv sd pr v) x)) → (∀ x, x < 10 → J2 kx_likes_behind x = nI (pcf e1 e2 N (fun k => sd k && decide (k ∈ l.take (i + 1))) x)) → (∀ s t, s < 10 → t < 10 → L2 kx_likes_matrix (s * 10 + t) = lI (lapS (pcf e1 e2 N (lsv sd pr v)) e1 e2 N (fun k => lkv sd pr v k && decide (k ∈ l.take (i + 1))) s t)) →
          ∃ J' L', kfrL J' I ∧ lfr L' L kx_likes_matrix ∧ ((i + 1 < N ∧ pr (l.getD (i + 1) 0) = v ∧ ab_E w ((d + 2) + 1) mt_Likes_countNets 37 [.ref kx_likes, .ref kx_now_cables, .long (prW e1 e2 pr N sd (v - 1)), .null, .int (nI (i + 1)), .null, .null] [] (J2, L2, ab_RR, n, nc, ns) (.inl (some (.long (prW e1 e2 pr N sd 999))), (J', L', ab_RR, n, nc, ns))) ∨
            ((i + 1 < N → pr (l.getD (i + 1) 0) ≠ v) ∧ ∃ (r : Int64) (J3 : Nat → Nat → Int32) (L3 : Nat → Nat → Int64), ab_C w (d + 2) mt_Likes_choices [.ref kx_likes] (J2, L2, ab_RR, n, nc, ns) (.inl (some (.long r)), (J3, L3, ab_RR, n, nc, ns)) ∧ ∃ (J4 : Nat → Nat → Int32) (L4 : Nat → Nat → Int64), ab_C w (d + 2) mt_Likes_passPrice [.ref kx_likes] (J3, L3, ab_RR, n, nc, ns) (.inl none, (J4, L4, ab_RR, n, nc, ns)) ∧ ab_E w ((d + 2) + 1) mt_Likes_countNets 37 [.ref kx_likes, .ref kx_now_cables, .long (prW e1 e2 pr N sd (v - 1) * r), .null, .int (nI (i + 1)), .null, .null] [] (J4, L4, ab_RR, n, nc, ns) (.inl (some (.long (prW e1 e2 pr N sd 999))), (J', L', ab_RR, n, nc, ns)))) := by
        intro J2 L2 f1 f2 hb ha hm
        have t5 : ∀ k ∈ l.take (i + 1), pr k ≤ v := fun k hk => by
          rw [ts] at hk
          rcases List.mem_append.mp hk with h | h
          · exact i5 k h
          · rw [List.mem_singleton.mp h]; omega
        by_cases hnx : i + 1 < N ∧ pr (l.getD (i + 1) 0) = v
        · obtain ⟨J', L', g1, g2, g3⟩ := ihm (m - 1) (by omega) (i + 1) v J2 L2 (by omega) hnx.2 (by
            rw [← hInv]
            exact ⟨f1, f2, i3, i4, t5, dsplit, hb, ha, hm⟩)
          exact ⟨J', L', g1, g2, Or.inl ⟨hnx.1, hnx.2, g3⟩⟩
        · -- the price is passed
          have hgt : ∀ k, k < N → pr k = v → k ∈ l.take (i + 1) := fun k hk hkv => by
            have hkl := (c2.2 k).mpr hk
            rw [← List.take_append_drop (i + 1) l] at hkl
            rcases List.mem_append.mp hkl with h | h
            · exact h
            · exfalso
              have hlt : i + 1 < N := by
                have : (l.drop (i + 1)).length ≠ 0 := fun e => by
                  rw [List.length_eq_zero_iff] at e
                  rw [e] at h; cases h
                rw [List.length_drop] at this
                omega
              have hne : pr (l.getD (i + 1) 0) ≠ v := fun e => hnx ⟨hlt, e⟩
              have e9 := take_drop_at (p := l) (i := i + 1) (by omega)
              have hd : l.drop (i + 1) = l.getD (i + 1) 0 :: l.drop (i + 1 + 1) := by
                rw [List.getD_eq_getElem?_getD, List.getElem?_eq_getElem (by omega), Option.getD_some]
                exact List.drop_eq_getElem_cons (by omega)
              have g0 := dsplit (l.getD (i + 1) 0) (by rw [hd]; exact List.mem_cons_self)
              rw [hd] at h
              rcases List.mem_cons.mp h with h | h
              · rw [h] at hkv; exact hne hkv
              · have := c2.1
                rw [e9, List.pairwise_append, List.pairwise_cons] at this
                have := this.2.1.1 k h
                unfold ch at this
                omega
          have allk : ∀ k, k < N → (k ∈ l.take (i + 1) ↔ pr k ≤ v) := fun k hk => by
            constructor
            · exact t5 k
            · intro h
              by_cases e : pr k = v
              · exact hgt k hk e
              · have hkl := (c2.2 k).mpr hk
                rw [← List.take_append_drop (i + 1) l] at hkl
                rcases List.mem_append.mp hkl with h' | h'
                · exact h'
                · have := dsplit k h'; omega
          have eqA : pcf e1 e2 N (fun k => sd k && decide (k ∈ l.take (i + 1))) = pcf e1 e2 N (fun k => lsv sd pr v k || lkv sd pr v k) := pcf_congr (fun k hk => by
            unfold lsv lkv
            have := allk k hk
            cases sd k with
            | false => rfl
            | true =>
              simp only [Bool.true_and]
              by_cases h : k ∈ l.take (i + 1)
              · rw [decide_eq_true h]
                have h2 := this.mp h
                by_cases e : pr k = v
                · rw [decide_eq_true e, Bool.or_true]
                · rw [decide_eq_true (show pr k < v by omega), Bool.true_or]
              · rw [decide_eq_false h, decide_eq_false (fun g => h (this.mpr (by omega))), decide_eq_false (fun g => h (this.mpr (by omega)))]; rfl)
          have eqM : ∀ s t, lapS (pcf e1 e2 N (lsv sd pr v)) e1 e2 N (fun k => lkv sd pr v k && decide (k ∈ l.take (i + 1))) s t = lapS (pcf e1 e2 N (lsv sd pr v)) e1 e2 N (lkv sd pr v) s t := fun s t => lapS_congr (fun k hk => by
            cases h : lkv sd pr v k with
            | false => rfl
            | true =>
              rw [Bool.true_and]
              unfold lkv at h
              rw [Bool.and_eq_true, decide_eq_true_iff] at h
              exact decide_eq_true (hgt k hk h.2)) s t
          obtain ⟨wg, f, wf, wsum⟩ := W_gnd (pr := pr) (sd := sd) hw p4 p3 v
          have kpb := pcf_kp (S := S) hw (lsv sd pr v)
          have kpa := pcf_kp (S := S) hw (fun k => lsv sd pr v k || lkv sd pr v k)
          have lt10 : ∀ {pc E}, kp e1 e2 S pc E → ∀ x, x < 10 → pc x < 10 := fun {pc E} h x hx => Nat.lt_of_le_of_lt (h.2.1 x) hx
          obtain ⟨J3, L3, a1, a2, a3⟩ := k_choices (w := w) (d := d + 1) (n := n) (nc := nc) (ns := ns) (I := J2) (L := L2) hT (pb := pcf e1 e2 N (lsv sd pr v)) (pa := pcf e1 e2 N (fun k => lsv sd pr v k || lkv sd pr v k)) (Lp := fun s t => lapS (pcf e1 e2 N (lsv sd pr v)) e1 e2 N (lkv sd pr v) s t) hb (fun x hx => by rw [← eqA]; exact ha x hx) (lt10 kpb) (lt10 kpa) (fun s t hs ht => by rw [← eqM]; exact hm s t hs ht) wg (f := f) wf wsum
          obtain ⟨J4, L4, b1, b2, b3, b4, b5⟩ := k_pass (w := w) (d := d + 1) (n := n) (nc := nc) (ns := ns) (I := J3) (L := L3) hT (pa := pcf e1 e2 N (fun k => sd k && decide (k ∈ l.take (i + 1)))) (fun x hx => by rw [a1 _ (by decide)]; exact ha x hx)
          have f4 : kfrL J4 I := fun a h1 h2 h3 => by rw [b1 a h1, a1 a h3]; exact f1 a h1 h2 h3
          have g4 : lfr L4 L kx_likes_matrix := fun a ha => by rw [b3 a ha, a2 a ha]; exact f2 a ha
          have hprod : prW e1 e2 pr N sd (v - 1) * lI (Wv e1 e2 pr N sd v) = prW e1 e2 pr N sd v := by
            conv => rhs; rw [show v = (v - 1) + 1 by omega]
            rw [prW, show v - 1 + 1 = v by omega]
          by_cases hlt : i + 1 < N
          · have hd : l.drop (i + 1) = l.getD (i + 1) 0 :: l.drop (i + 1 + 1) := by
              rw [List.getD_eq_getElem?_getD, List.getElem?_eq_getElem (by omega), Option.getD_some]
              exact List.drop_eq_getElem_cons (by omega)
            have hne : pr (l.getD (i + 1) 0) ≠ v := fun e => hnx ⟨hlt, e⟩
            have g0 := dsplit (l.getD (i + 1) 0) (by rw [hd]; exact List.mem_cons_self)
            have hnN := p7 _ (getD_mem (Q := l) (j := i + 1) (by omega))
            have hv9 := (p8 _ hnN).2.2.2.2.2
            generalize hnv : pr (l.getD (i + 1) 0) = v' at *
            have hdr : ∀ k ∈ l.drop (i + 1), v' ≤ pr k := fun k hk => by
              rw [hd] at hk
              rcases List.mem_cons.mp hk with h | h
              · rw [h]; omega
              · have e9 := take_drop_at (p := l) (i := i + 1) (by omega)
                have := c2.1
                rw [e9, List.pairwise_append, List.pairwise_cons] at this
                have := this.2.1.1 k h
                unfold ch at this
                omega
            have none : ∀ x, v < x → x ≤ v' - 1 → ∀ k, k < N → lkv sd pr x k = false := fun x h1 h2 k hk => by
              unfold lkv
              cases sd k with
              | false => rfl
              | true =>
                rw [Bool.true_and]
                refine decide_eq_false (fun e => ?_)
                have hkl := (c2.2 k).mpr hk
                rw [← List.take_append_drop (i + 1) l] at hkl
                rcases List.mem_append.mp hkl with h | h
                · have := t5 k h; omega
                · have := hdr k h; omega
            have eB : pcf e1 e2 N (fun k => sd k && decide (k ∈ l.take (i + 1))) = pcf e1 e2 N (lsv sd pr v') := pcf_congr (fun k hk => by
              unfold lsv
              cases sd k with
              | false => rfl
              | true =>
                rw [Bool.true_and, Bool.true_and]
                by_cases h : k ∈ l.take (i + 1)
                · rw [decide_eq_true h, decide_eq_true (by have := t5 k h; omega)]
                · rw [decide_eq_false h, decide_eq_false (fun g => h ((allk k hk).mpr (by
                    have hkl := (c2.2 k).mpr hk
                    rw [← List.take_append_drop (i + 1) l] at hkl
                    rcases List.mem_append.mp hkl with h' | h'
                    · exact t5 k h'
                    · have := hdr k h'; omega)))])
            obtain ⟨J', L', g1, g2, g3⟩ := ihm (m - 1) (by omega) (i + 1) v' J4 L4 (by omega) hnv (by
              rw [← hInv]
              refine ⟨f4, g4, by omega, hv9, fun k hk => by have := t5 k hk; omega, hdr, fun x hx => by rw [b2 x hx, eB], fun x hx => by rw [b1 _ (by decide), a1 _ (by decide)]; exact ha x hx, fun s t hs ht => ?_⟩
              rw [b4 _ (by omega)]
              have z : lapS (pcf e1 e2 N (lsv sd pr v')) e1 e2 N (fun k => lkv sd pr v' k && decide (k ∈ l.take (i + 1))) s t = 0 := by
                unfold lapS
                rw [smI_cong (g := fun _ => 0) (fun k _ => by
                  rw [if_neg]
                  intro h
                  rw [Bool.and_eq_true, decide_eq_true_iff] at h
                  unfold lkv at h
                  rw [Bool.and_eq_true, decide_eq_true_iff] at h
                  have := t5 k h.2
                  omega), smI_zero]
              rw [z]; rfl)
            refine ⟨J', L', g1, g2, Or.inr ⟨fun _ => hne, _, J3, L3, a3, J4, L4, b5, ?_⟩⟩
            have e7 : prW e1 e2 pr N sd (v - 1) * lI (Wv e1 e2 pr N sd v) = prW e1 e2 pr N sd (v' - 1) := by rw [hprod, prW_skip (u := v) (v := v' - 1) (by omega) none]
            show ab_E w ((d + 2) + 1) mt_Likes_countNets 37 [.ref kx_likes, .ref kx_now_cables, .long (prW e1 e2 pr N sd (v - 1) * lI (Wv e1 e2 pr N sd v)), .null, .int (nI (i + 1)), .null, .null] [] (J4, L4, ab_RR, n, nc, ns) _
            rw [e7]; exact g3
          · refine ⟨J4, L4, f4, g4, Or.inr ⟨fun h => absurd h hlt, _, J3, L3, a3, J4, L4, b5, ?_⟩⟩
            have none : ∀ x, v < x → x ≤ 999 → ∀ k, k < N → lkv sd pr x k = false := fun x h1 h2 k hk => by
              unfold lkv
              cases sd k with
              | false => rfl
              | true =>
                rw [Bool.true_and]
                refine decide_eq_false (fun e => ?_)
                have hkl := (c2.2 k).mpr hk
                rw [← List.take_of_length_le (i := i + 1) (l := l) (by omega)] at hkl
                have := t5 k hkl
                omega
            have e7 : prW e1 e2 pr N sd (v - 1) * lI (Wv e1 e2 pr N sd v) = prW e1 e2 pr N sd 999 := by rw [hprod, prW_skip (u := v) (v := 999) i4 none]
            have r1' : J4 kx_now_cables 1 = nI N := by rw [f4 _ (by decide) (by decide) (by decide)]; exact p2
            show ab_E w ((d + 2) + 1) mt_Likes_countNets 37 [.ref kx_likes, .ref kx_now_cables, .long (prW e1 e2 pr N sd (v - 1) * lI (Wv e1 e2 pr N sd v)), .null, .int (nI (i + 1)), .null, .null] [] (J4, L4, ab_RR, n, nc, ns) _
            rw [e7]
            refine r_Likes_countNets_37 hT _ _ (Nat.le_refl _) (Nat.le_refl _) ?_
            exact bb_t (by rw [r1']; exact nI_le (by omega) (by omega)) rfl
      by_cases hs : sd c = true
      · have kb := pcf_kp (S := S) hw (lsv sd pr v)
        have ka := pcf_kp (S := S) hw (fun k => sd k && decide (k ∈ l.take i))
        obtain ⟨J2, L2, pa', a1, a2, a3, a4, a5, a6⟩ := k_enter (w := w) (d := d) (n := n) (nc := nc) (ns := ns) (I := J) (L := L1) hT (c := c) p3 q4 q5 i7 i8 kb ka (fun k hk => ⟨hk.1, by
            have h2 := hk.2
            unfold lsv at h2
            rw [Bool.and_eq_true, decide_eq_true_iff] at h2
            rw [h2.1, Bool.true_and]
            refine decide_eq_true ?_
            have hkl := (c2.2 k).mpr hk.1
            rw [← List.take_append_drop i l] at hkl
            rcases List.mem_append.mp hkl with h | h
            · exact h
            · have := i6 k h; omega⟩) i9
        have epa : pa' = pcf e1 e2 N (fun k => sd k && decide (k ∈ l.take (i + 1))) := kp_uq a4 (pcf_kp (S := S) hw _) (fun k => by
          rw [Bool.and_eq_true, decide_eq_true_iff, Bool.and_eq_true, decide_eq_true_iff, ts, List.mem_append, List.mem_singleton]
          constructor
          · rintro (⟨h1, h2, h3⟩ | h)
            · exact ⟨h1, h2, Or.inl h3⟩
            · rw [h]; exact ⟨hcN, hs, Or.inr rfl⟩
          · rintro ⟨h1, h2, h3 | h3⟩
            · exact Or.inl ⟨h1, h2, h3⟩
            · exact Or.inr h3)
        have f2 : kfrL J2 I := fun a h1 h2 h3 => by rw [a1 a h2]; exact i1 a h1 h2 h3
        obtain ⟨J', L', g1, g2, g3⟩ := after J2 L2 f2 (fun a ha => by rw [a2 a ha]; exact i2 a ha) (fun x hx => by rw [a1 _ (by decide)]; exact i7 x hx) (fun x hx => by rw [← epa]; exact a3 x hx) (fun s t hs' ht => by
          rw [a5 s t hs' ht]
          refine congrArg lI ?_
          unfold lapS
          rw [smI_add1 (f := fun k => if (lkv sd pr v k && decide (k ∈ l.take i)) = true then ctr (pcf e1 e2 N (lsv sd pr v) (e1 k)) (pcf e1 e2 N (lsv sd pr v) (e2 k)) s t else 0) (g := fun k => if (lkv sd pr v k && decide (k ∈ l.take (i + 1))) = true then ctr (pcf e1 e2 N (lsv sd pr v) (e1 k)) (pcf e1 e2 N (lsv sd pr v) (e2 k)) s t else 0) (c := c) hcN (fun k hk => by
            have : decide (k ∈ l.take (i + 1)) = decide (k ∈ l.take i) := by
              rw [ts]
              by_cases h : k ∈ l.take i
              · rw [decide_eq_true h, decide_eq_true (List.mem_append_left _ h)]
              · rw [decide_eq_false h, decide_eq_false (fun g => by
                  rcases List.mem_append.mp g with g | g
                  · exact h g
                  · exact hk (List.mem_singleton.mp g))]
            rw [this]) (by
            show (if (lkv sd pr v c && decide (c ∈ l.take i)) = true then _ else 0) = (0 : Int)
            rw [decide_eq_false hcni, Bool.and_false]; rfl)]
          show _ = _ + (if (lkv sd pr v c && decide (c ∈ l.take (i + 1))) = true then _ else 0)
          have hl : (lkv sd pr v c && decide (c ∈ l.take (i + 1))) = true := by
            rw [Bool.and_eq_true, decide_eq_true_iff, ts]
            refine ⟨?_, List.mem_append_right _ List.mem_cons_self⟩
            unfold lkv
            rw [hs, Bool.true_and]; exact decide_eq_true hv
          rw [if_pos hl])
        refine ⟨J', L', g1, g2, ?_⟩
        have r1' : J2 kx_now_cables 1 = nI N := by rw [f2 _ (by decide) (by decide) (by decide)]; exact p2
        have rp : J2 kx_now_cables_price c = nI (pr c) := by rw [f2 _ (by decide) (by decide) (by decide)]; exact q3
        by_cases hlt : i + 1 < N
        · have hne : ¬ i + 1 = N := by omega
          have ro' : J2 kx_now_cables_order (i + 1) = nI (l.getD (i + 1) 0) := by rw [f2 _ (by decide) (by decide) (by decide)]; exact p6 (i + 1) hlt
          have hnN := p7 _ (getD_mem (Q := l) (j := i + 1) (by omega))
          have rp' : J2 kx_now_cables_price (l.getD (i + 1) 0) = nI (pr (l.getD (i + 1) 0)) := by rw [f2 _ (by decide) (by decide) (by decide)]; exact (p8 _ hnN).2.2.1
          have lp9 := (p8 _ hnN).2.2.2.2.2
          rcases g3 with ⟨-, g4, g5⟩ | ⟨g4, r, J3, L3, g5, J4, L4, g6, g7⟩
          · have g4' : pr (l.getD (i + 1) 0) = pr c := g4.trans hv.symm
            refine r_Likes_countNets_37 hT _ _ (Nat.le_refl _) (Nat.le_refl _) ?_
            simp (disch := first | omega | decide) only [r1, hiN, ro, rs', hs, rf, rs2, nl_add1, nl_add2, nl_mul1, nl_mul2, nl_sub1, nl_lt1, nl_lt2, nl_le1, nl_le2, nl_eq1, nl_eq2, nl_m1, nl_m2, nl_inT, nI_add, nI_mul, nI_leI, nI_ltI, nI_eq, nI_clamp, nl_bit, oI_n, oI_s, oI_m1, true_and, and_true, eq_self, Bool.false_eq_true, not_false_eq_true, not_true_eq_false, false_implies, true_implies, implies_true, forall_const, Nat.not_lt_zero, ab_row_eq, ab_row_ne, ab_up_i, ab_up_o, pk_us, pk_un, ab_row_row]
            refine ⟨J2, L2, a6, ?_⟩
            simp (disch := first | omega | decide) only [r1', hne, ro', rp, rp', g4', nl_add1, nl_add2, nl_mul1, nl_mul2, nl_sub1, nl_lt1, nl_lt2, nl_le1, nl_le2, nl_eq1, nl_eq2, nl_m1, nl_m2, nl_inT, nI_add, nI_mul, nI_leI, nI_ltI, nI_eq, nI_clamp, nl_bit, oI_n, oI_s, oI_m1, true_and, and_true, eq_self, Bool.false_eq_true, not_false_eq_true, not_true_eq_false, false_implies, true_implies, implies_true, forall_const, Nat.not_lt_zero, ab_row_eq, ab_row_ne, ab_up_i, ab_up_o, pk_us, pk_un, ab_row_row]
            exact g5
          · have g4' : ¬ pr (l.getD (i + 1) 0) = pr c := fun h => g4 hlt (h.trans hv)
            refine r_Likes_countNets_37 hT _ _ (Nat.le_refl _) (Nat.le_refl _) ?_
            simp (disch := first | omega | decide) only [r1, hiN, ro, rs', hs, rf, rs2, nl_add1, nl_add2, nl_mul1, nl_mul2, nl_sub1, nl_lt1, nl_lt2, nl_le1, nl_le2, nl_eq1, nl_eq2, nl_m1, nl_m2, nl_inT, nI_add, nI_mul, nI_leI, nI_ltI, nI_eq, nI_clamp, nl_bit, oI_n, oI_s, oI_m1, true_and, and_true, eq_self, Bool.false_eq_true, not_false_eq_true, not_true_eq_false, false_implies, true_implies, implies_true, forall_const, Nat.not_lt_zero, ab_row_eq, ab_row_ne, ab_up_i, ab_up_o, pk_us, pk_un, ab_row_row]
            refine ⟨J2, L2, a6, ?_⟩
            simp (disch := first | omega | decide) only [r1', hne, ro', rp, rp', g4', nl_add1, nl_add2, nl_mul1, nl_mul2, nl_sub1, nl_lt1, nl_lt2, nl_le1, nl_le2, nl_eq1, nl_eq2, nl_m1, nl_m2, nl_inT, nI_add, nI_mul, nI_leI, nI_ltI, nI_eq, nI_clamp, nl_bit, oI_n, oI_s, oI_m1, true_and, and_true, eq_self, Bool.false_eq_true, not_false_eq_true, not_true_eq_false, false_implies, true_implies, implies_true, forall_const, Nat.not_lt_zero, ab_row_eq, ab_row_ne, ab_up_i, ab_up_o, pk_us, pk_un, ab_row_row]
            exact ⟨r, J3, L3, g5, J4, L4, g6, g7⟩
        · have he : i + 1 = N := by omega
          rcases g3 with ⟨g4, -, -⟩ | ⟨g4, r, J3, L3, g5, J4, L4, g6, g7⟩
          · exact absurd g4 hlt
          · refine r_Likes_countNets_37 hT _ _ (Nat.le_refl _) (Nat.le_refl _) ?_
            simp (disch := first | omega | decide) only [r1, hiN, ro, rs', hs, rf, rs2, nl_add1, nl_add2, nl_mul1, nl_mul2, nl_sub1, nl_lt1, nl_lt2, nl_le1, nl_le2, nl_eq1, nl_eq2, nl_m1, nl_m2, nl_inT, nI_add, nI_mul, nI_leI, nI_ltI, nI_eq, nI_clamp, nl_bit, oI_n, oI_s, oI_m1, true_and, and_true, eq_self, Bool.false_eq_true, not_false_eq_true, not_true_eq_false, false_implies, true_implies, implies_true, forall_const, Nat.not_lt_zero, ab_row_eq, ab_row_ne, ab_up_i, ab_up_o, pk_us, pk_un, ab_row_row]
            refine ⟨J2, L2, a6, ?_⟩
            simp (disch := first | omega | decide) only [r1', he, nl_add1, nl_add2, nl_mul1, nl_mul2, nl_sub1, nl_lt1, nl_lt2, nl_le1, nl_le2, nl_eq1, nl_eq2, nl_m1, nl_m2, nl_inT, nI_add, nI_mul, nI_leI, nI_ltI, nI_eq, nI_clamp, nl_bit, oI_n, oI_s, oI_m1, true_and, and_true, eq_self, Bool.false_eq_true, not_false_eq_true, not_true_eq_false, false_implies, true_implies, implies_true, forall_const, Nat.not_lt_zero, ab_row_eq, ab_row_ne, ab_up_i, ab_up_o, pk_us, pk_un, ab_row_row]
            rw [he] at g7
            exact ⟨r, J3, L3, g5, J4, L4, g6, g7⟩
      · have same : ∀ k, (sd k && decide (k ∈ l.take (i + 1))) = (sd k && decide (k ∈ l.take i)) := fun k => by
          by_cases e : k = c
          · rw [e]
            have : sd c = false := by simpa using hs
            rw [this]; rfl
          · have : decide (k ∈ l.take (i + 1)) = decide (k ∈ l.take i) := by
              rw [ts]
              by_cases h : k ∈ l.take i
              · rw [decide_eq_true h, decide_eq_true (List.mem_append_left _ h)]
              · rw [decide_eq_false h, decide_eq_false (fun g => by
                  rcases List.mem_append.mp g with g | g
                  · exact h g
                  · exact e (List.mem_singleton.mp g))]
            rw [this]
        obtain ⟨J', L', g1, g2, g3⟩ := after J L1 i1 i2 i7 (fun x hx => by rw [pcf_congr (fun k _ => same k)]; exact i8 x hx) (fun s t hs' ht => by
          rw [i9 s t hs' ht]
          exact congrArg lI (lapS_congr (fun k _ => by
            unfold lkv
            rw [Bool.and_assoc, Bool.and_comm (decide _) (decide _), ← Bool.and_assoc, ← same k, Bool.and_assoc, Bool.and_comm (decide (k ∈ l.take (i + 1))) _, ← Bool.and_assoc]) s t))
        refine ⟨J', L', g1, g2, ?_⟩
        have rp : J kx_now_cables_price c = nI (pr c) := by rw [rd _ (by decide) (by decide) (by decide)]; exact q3
        by_cases hlt : i + 1 < N
        · have hne : ¬ i + 1 = N := by omega
          have ro' : J kx_now_cables_order (i + 1) = nI (l.getD (i + 1) 0) := by rw [rd _ (by decide) (by decide) (by decide)]; exact p6 (i + 1) hlt
          have hnN := p7 _ (getD_mem (Q := l) (j := i + 1) (by omega))
          have rp' : J kx_now_cables_price (l.getD (i + 1) 0) = nI (pr (l.getD (i + 1) 0)) := by rw [rd _ (by decide) (by decide) (by decide)]; exact (p8 _ hnN).2.2.1
          have lp9 := (p8 _ hnN).2.2.2.2.2
          rcases g3 with ⟨-, g4, g5⟩ | ⟨g4, r, J3, L3, g5, J4, L4, g6, g7⟩
          · have g4' : pr (l.getD (i + 1) 0) = pr c := g4.trans hv.symm
            refine r_Likes_countNets_37 hT _ _ (Nat.le_refl _) (Nat.le_refl _) ?_
            simp (disch := first | omega | decide) only [r1, hiN, ro, rs', hs, hne, ro', rp, rp', g4', nl_add1, nl_add2, nl_mul1, nl_mul2, nl_sub1, nl_lt1, nl_lt2, nl_le1, nl_le2, nl_eq1, nl_eq2, nl_m1, nl_m2, nl_inT, nI_add, nI_mul, nI_leI, nI_ltI, nI_eq, nI_clamp, nl_bit, oI_n, oI_s, oI_m1, true_and, and_true, eq_self, Bool.false_eq_true, not_false_eq_true, not_true_eq_false, false_implies, true_implies, implies_true, forall_const, Nat.not_lt_zero, ab_row_eq, ab_row_ne, ab_up_i, ab_up_o, pk_us, pk_un, ab_row_row]
            exact g5
          · have g4' : ¬ pr (l.getD (i + 1) 0) = pr c := fun h => g4 hlt (h.trans hv)
            refine r_Likes_countNets_37 hT _ _ (Nat.le_refl _) (Nat.le_refl _) ?_
            simp (disch := first | omega | decide) only [r1, hiN, ro, rs', hs, hne, ro', rp, rp', g4', nl_add1, nl_add2, nl_mul1, nl_mul2, nl_sub1, nl_lt1, nl_lt2, nl_le1, nl_le2, nl_eq1, nl_eq2, nl_m1, nl_m2, nl_inT, nI_add, nI_mul, nI_leI, nI_ltI, nI_eq, nI_clamp, nl_bit, oI_n, oI_s, oI_m1, true_and, and_true, eq_self, Bool.false_eq_true, not_false_eq_true, not_true_eq_false, false_implies, true_implies, implies_true, forall_const, Nat.not_lt_zero, ab_row_eq, ab_row_ne, ab_up_i, ab_up_o, pk_us, pk_un, ab_row_row]
            exact ⟨r, J3, L3, g5, J4, L4, g6, g7⟩
        · have he : i + 1 = N := by omega
          rcases g3 with ⟨g4, -, -⟩ | ⟨g4, r, J3, L3, g5, J4, L4, g6, g7⟩
          · exact absurd g4 hlt
          · refine r_Likes_countNets_37 hT _ _ (Nat.le_refl _) (Nat.le_refl _) ?_
            simp (disch := first | omega | decide) only [r1, hiN, ro, rs', hs, he, nl_add1, nl_add2, nl_mul1, nl_mul2, nl_sub1, nl_lt1, nl_lt2, nl_le1, nl_le2, nl_eq1, nl_eq2, nl_m1, nl_m2, nl_inT, nI_add, nI_mul, nI_leI, nI_ltI, nI_eq, nI_clamp, nl_bit, oI_n, oI_s, oI_m1, true_and, and_true, eq_self, Bool.false_eq_true, not_false_eq_true, not_true_eq_false, false_implies, true_implies, implies_true, forall_const, Nat.not_lt_zero, ab_row_eq, ab_row_ne, ab_up_i, ab_up_o, pk_us, pk_un, ab_row_row]
            rw [he] at g7
            exact ⟨r, J3, L3, g5, J4, L4, g6, g7⟩
  -- the beginning
  have begin' : ∀ m x (J : Nat → Nat → Int32), x + m = 10 → kfrL J I → (∀ y, y < x → J kx_likes_before y = nI y ∧ J kx_likes_behind y = nI y) → ∃ J' L', kfrL J' I ∧ lfr L' L kx_likes_matrix ∧ ab_E w ((d + 2) + 1) mt_Likes_countNets 2 [.ref kx_likes, .ref kx_now_cables, .int (nI x), .null, .null, .null, .null] [] (J, L, ab_RR, n, nc, ns) (.inl (some (.long (prW e1 e2 pr N sd 999))), (J', L', ab_RR, n, nc, ns)) := by
    intro m
    induction m with
    | zero =>
      intro x J hx hJ hf
      obtain ⟨L1, b1, b2, b3⟩ := k_clear (w := w) (d := d + 2) (n := n) (nc := nc) (ns := ns) (I := J) (L := L) hT
      have hx10 : 10 ≤ x := by omega
      by_cases hN0 : N = 0
      · refine ⟨J, L1, hJ, b1, ?_⟩
        have none : ∀ x, 0 < x → x ≤ 999 → ∀ k, k < N → lkv sd pr x k = false := fun x _ _ k hk => by omega
        have e7 := prW_skip (e1 := e1) (e2 := e2) (u := 0) (v := 999) (by omega) none
        have r1 : J kx_now_cables 1 = nI N := by rw [hJ _ (by decide) (by decide) (by decide)]; exact p2
        rw [e7]
        refine r_Likes_countNets_2 hT _ (Nat.le_refl _) (Nat.le_refl _) ?_
        simp (disch := first | omega | decide) only [hx10, nl_add1, nl_add2, nl_mul1, nl_mul2, nl_sub1, nl_lt1, nl_lt2, nl_le1, nl_le2, nl_eq1, nl_eq2, nl_m1, nl_m2, nl_inT, nI_add, nI_mul, nI_leI, nI_ltI, nI_eq, nI_clamp, nl_bit, oI_n, oI_s, oI_m1, true_and, and_true, eq_self, Bool.false_eq_true, not_false_eq_true, not_true_eq_false, false_implies, true_implies, implies_true, forall_const, Nat.not_lt_zero, ab_row_eq, ab_row_ne, ab_up_i, ab_up_o, pk_us, pk_un, ab_row_row]
        refine ⟨L1, b3, ?_⟩
        refine r_Likes_countNets_37 hT _ _ (Nat.le_refl _) (Nat.le_refl _) ?_
        refine bb_t (by rw [r1, hN0]; decide) rfl
      · have hcl := getD_mem (Q := l) (j := 0) (by omega)
        have hcN := p7 _ hcl
        have hv1 := (c6 _ hcN).2.2.1
        have hv9 := (p8 _ hcN).2.2.2.2.2
        have emp : ∀ (am : Nat → Bool), (∀ k, k < N → am k = false) → pcf e1 e2 N am = id := fun am h => by
          rw [pcf_congr (am' := fun _ => false) h]
          unfold pcf
          have : (List.range N).filter (fun _ => false) = [] := by simp
          rw [this, kr_nil]
        have hd : l = l.getD 0 0 :: l.drop 1 := by
          have := take_drop_at (p := l) (i := 0) (by omega)
          simpa using this
        have dge : ∀ k ∈ l, pr (l.getD 0 0) ≤ pr k := fun k hk => by
          rw [hd] at hk
          rcases List.mem_cons.mp hk with h | h
          · rw [h]; exact Nat.le_refl _
          · have := c2.1
            rw [hd, List.pairwise_cons] at this
            have := this.1 k h
            unfold ch at this
            omega
        obtain ⟨J', L', g1, g2, g3⟩ := loop (N - 1) 0 (pr (l.getD 0 0)) J L1 (by omega) rfl (by
          rw [← hInv]
          refine ⟨hJ, b1, hv1, hv9, fun k hk => absurd hk (by simp), fun k hk => dge k (by simpa using hk), fun x hx => ?_, fun x hx => ?_, fun s t hs ht => ?_⟩
          · rw [emp _ (fun k hk => by
              unfold lsv
              rw [decide_eq_false (by have := dge k ((c2.2 k).mpr hk); omega), Bool.and_false])]
            exact (hf x (by omega)).1
          · rw [emp _ (fun k hk => by simp)]
            exact (hf x (by omega)).2
          · rw [b2 _ (by omega)]
            unfold lapS
            rw [smI_cong (g := fun _ => 0) (fun k _ => by
              rw [if_neg]
              simp), smI_zero]; rfl)
        have none : ∀ x, 0 < x → x ≤ pr (l.getD 0 0) - 1 → ∀ k, k < N → lkv sd pr x k = false := fun x h1 h2 k hk => by
          unfold lkv
          rw [decide_eq_false (by have := dge k ((c2.2 k).mpr hk); omega), Bool.and_false]
        rw [prW_skip (u := 0) (by omega) none] at g3
        refine ⟨J', L', g1, g2, ?_⟩
        refine r_Likes_countNets_2 hT _ (Nat.le_refl _) (Nat.le_refl _) ?_
        simp (disch := first | omega | decide) only [hx10, nl_add1, nl_add2, nl_mul1, nl_mul2, nl_sub1, nl_lt1, nl_lt2, nl_le1, nl_le2, nl_eq1, nl_eq2, nl_m1, nl_m2, nl_inT, nI_add, nI_mul, nI_leI, nI_ltI, nI_eq, nI_clamp, nl_bit, oI_n, oI_s, oI_m1, true_and, and_true, eq_self, Bool.false_eq_true, not_false_eq_true, not_true_eq_false, false_implies, true_implies, implies_true, forall_const, Nat.not_lt_zero, ab_row_eq, ab_row_ne, ab_up_i, ab_up_o, pk_us, pk_un, ab_row_row]
        exact ⟨L1, b3, g3⟩
    | succ m ih =>
      intro x J hx hJ hf
      obtain ⟨J', L', g1, g2, g3⟩ := ih (x + 1) (ab_up (ab_up J kx_likes_before x (nI x)) kx_likes_behind x (nI x)) (by omega) (fun a h1 h2 h3 => by rw [ab_up_o h2, ab_up_o h1]; exact hJ a h1 h2 h3) (fun y hy => by
        rw [ab_up_o (by decide), ab_up_i, ab_up_i, ab_up_o (by decide)]
        by_cases e : y = x
        · rw [e, pk_us, pk_us]; exact ⟨rfl, rfl⟩
        · rw [pk_un e, pk_un e]; exact hf y (by omega))
      refine ⟨J', L', g1, g2, ?_⟩
      have hx10 : ¬ 10 ≤ x := by omega
      refine r_Likes_countNets_2 hT _ (Nat.le_refl _) (Nat.le_refl _) ?_
      simp (disch := first | omega | decide) only [hx10, nl_add1, nl_add2, nl_mul1, nl_mul2, nl_sub1, nl_lt1, nl_lt2, nl_le1, nl_le2, nl_eq1, nl_eq2, nl_m1, nl_m2, nl_inT, nI_add, nI_mul, nI_leI, nI_ltI, nI_eq, nI_clamp, nl_bit, oI_n, oI_s, oI_m1, true_and, and_true, eq_self, Bool.false_eq_true, not_false_eq_true, not_true_eq_false, false_implies, true_implies, implies_true, forall_const, Nat.not_lt_zero, ab_row_eq, ab_row_ne, ab_up_i, ab_up_o, pk_us, pk_un, ab_row_row]
      exact g3
  obtain ⟨J', L', g1, g2, g3⟩ := begin' 10 0 I (by omega) (fun _ _ _ _ => rfl) (fun y hy => absurd hy (Nat.not_lt_zero y))
  refine ⟨J', L', g1, g2, ?_⟩
  refine ab_C_of (by decide) rfl (Nat.le_of_ble_eq_true rfl) hT ?_
  refine r_Likes_countNets_0 hT (Nat.le_refl _) (Nat.le_refl _) ?_
  exact g3
end KLJ
