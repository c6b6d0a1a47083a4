/-! THE MODEL: rival, hub, spans, bar -/
theorem cmp_t {pr : Nat → Nat} {i c : Nat} {A B : Prop} (h : ch pr i c) (a : A) : (pr i < pr c → A) ∧ (¬ pr i < pr c → ((pr i = pr c → ((c ≤ i → B) ∧ (¬ c ≤ i → A))) ∧ (¬ pr i = pr c → B))) := by
  unfold ch at h
  exact ⟨fun _ => a, fun g => ⟨fun e => ⟨fun g' => absurd h (by omega), fun _ => a⟩, fun e => absurd h (by omega)⟩⟩
theorem cmp_f {pr : Nat → Nat} {i c : Nat} {A B : Prop} (h : ¬ ch pr i c) (b : B) : (pr i < pr c → A) ∧ (¬ pr i < pr c → ((pr i = pr c → ((c ≤ i → B) ∧ (¬ c ≤ i → A))) ∧ (¬ pr i = pr c → B))) := by
  unfold ch at h
  exact ⟨fun g => absurd g (by omega), fun g => ⟨fun e => ⟨fun _ => b, fun g' => absurd g' (by omega)⟩, fun _ => b⟩⟩
/-- the cheapest so far -/
def chb (pr : Nat → Nat) (P : Nat → Prop) (i : Nat) (b : Int32) : Prop := (b = -1 ∧ ∀ x, x < i → ¬ P x) ∨ ∃ c, b = nI c ∧ P c ∧ c < i ∧ ∀ x, x < i → P x → x = c ∨ ch pr c x
section CHB
variable {pr : Nat → Nat} {P : Nat → Prop} {i c : Nat} {b : Int32}
theorem chb_no (h : chb pr P i b) (hn : ¬ P i) : chb pr P (i + 1) b := by
  rcases h with ⟨h1, h2⟩ | ⟨c, h1, h2, h3, h4⟩
  · exact Or.inl ⟨h1, fun x hx => by
      by_cases e : x = i
      · rw [e]; exact hn
      · exact h2 x (by omega)⟩
  · exact Or.inr ⟨c, h1, h2, by omega, fun x hx px => by
      by_cases e : x = i
      · rw [e] at px; exact absurd px hn
      · exact h4 x (by omega) px⟩
theorem chb_first (h : ∀ x, x < i → ¬ P x) (hp : P i) : chb pr P (i + 1) (nI i) := Or.inr ⟨i, rfl, hp, by omega, fun x hx px => by
  by_cases e : x = i
  · exact Or.inl e
  · exact absurd px (h x (by omega))⟩
theorem chb_take (h4 : ∀ x, x < i → P x → x = c ∨ ch pr c x) (hp : P i) (hc : ch pr i c) : chb pr P (i + 1) (nI i) := Or.inr ⟨i, rfl, hp, by omega, fun x hx px => by
  by_cases e : x = i
  · exact Or.inl e
  · rcases h4 x (by omega) px with e | e
    · rw [e]; exact Or.inr hc
    · exact Or.inr (ch_trans hc e)⟩
theorem chb_keep (h2 : P c) (h3 : c < i) (h4 : ∀ x, x < i → P x → x = c ∨ ch pr c x) (hc : ¬ ch pr i c) : chb pr P (i + 1) (nI c) := Or.inr ⟨c, rfl, h2, by omega, fun x hx px => by
  by_cases e : x = i
  · rw [e]; exact Or.inr ((ch_total (by omega)).resolve_left hc)
  · exact h4 x (by omega) px⟩
theorem chb_end {N : Nat} (h : chb pr P N b) (hP : ∀ x, P x → x < N) : chp pr P b := by
  rcases h with ⟨h1, h2⟩ | ⟨c, h1, h2, h3, h4⟩
  · exact Or.inl ⟨h1, fun x px => h2 x (hP x px) px⟩
  · exact Or.inr ⟨c, h1, h2, fun x px => h4 x (hP x px) px⟩
theorem chp_uq {r r' : Int32} (h : chp pr P r) (g : chp pr P r') : r = r' := by
  rcases h with ⟨h1, h2⟩ | ⟨c, h1, h2, h3⟩ <;> rcases g with ⟨g1, g2⟩ | ⟨c', g1, g2, g3⟩
  · rw [h1, g1]
  · exact absurd g2 (h2 c')
  · exact absurd h2 (g2 c)
  · rw [h1, g1]
    rcases h3 c' g2 with e | e
    · rw [e]
    · rcases g3 c h2 with e' | e'
      · rw [e']
      · exact absurd e (ch_asymm e')
end CHB
noncomputable def dmx (pr : Nat → Nat) (p : List Nat) : Nat := @dite _ (∃ c, dst pr p c) (Classical.propDecidable _) (fun h => Classical.choose h) (fun _ => 0)
theorem dmx_eq {pr : Nat → Nat} {p : List Nat} {c : Nat} (h : dst pr p c) : dmx pr p = c := by
  unfold dmx
  rw [dif_pos ⟨c, h⟩]
  exact dst_uq (Classical.choose_spec (⟨c, h⟩ : ∃ c, dst pr p c)) h
noncomputable def nbV (e1 e2 pr : Nat → Nat) (T : List Nat) (tot k : Nat) : Int32 := (nI tot + nI (pr k)) - nI (pr (dmx pr ((pth e1 e2 T.reverse (e1 k) (e2 k)).getD [])))
def nbf (V : Nat → Int32) (out : Nat → Bool) : Nat → Int32
  | 0 => -1
  | k + 1 => if out k = true then (if nbf V out k = -1 then V k else ab_min32 (nbf V out k) (V k)) else nbf V out k
/-- the pairs of sites, of each the lesser second -/
def lgf (g : Nat → Nat → Nat) : Nat → Nat
  | 0 => 0
  | a + 1 => max (lgf g a) (mxf (g a) a)
section MSO
variable {w : ab_Wd} {d n nc ns : Nat} {I : Nat → Nat → Int32} {L : Nat → Nat → Int64}
variable {S N : Nat} {sd : Nat → Bool} {e1 e2 pr fm : Nat → Nat} {l : List Nat}
theorem z_rivalOf (hT : w.1.stackTraces = false) {v : Int32} {k : Nat} (hm : mC I S N sd e1 e2 pr fm l) (hv : ∀ k, k < 32 → bt v k = decide (k ∈ net e1 e2 sd l)) (hk : k < N) :
    ∃ (J : Nat → Nat → Int32) (r : Int32), mfr J I ∧ chp pr (rvc e1 e2 S N sd (net e1 e2 sd l) k) r ∧ ab_PU w (d + 3) mt_M_rivalOf [.ref mx, .int v, .int (nI k)] I L n nc ns r J := by
  have hN := hm.1.2.2.2.1
  have hS := hm.1.2.2.1
  obtain ⟨J, h1, h2⟩ := z_cutOf (w := w) (d := d) (n := n) (nc := nc) (ns := ns) (L := L) hT hm hv hk
  have hm' := mC_fr h1 hm
  obtain ⟨k1, k2, k3, k4, k5, k6⟩ := hm.1.2.2.2.2.2 k hk
  generalize hx : ab_mask S (cutb e1 e2 S (net e1 e2 sd l) k) = x at *
  have hxb : ∀ s, s < S → bt x s = cutb e1 e2 S (net e1 e2 sd l) k s := fun s hs => by
    rw [← hx, ab_mask_bt _ _ (by omega) s (by omega), decide_eq_true hs, Bool.true_and]
  have hx0 : k ∈ net e1 e2 sd l → ¬ x = 0 := fun hk' e => by
    have := hxb (e1 k) k4
    rw [e, b_0] at this
    unfold cutb at this
    rw [cnB_iff.mpr cn_refl] at this
    simp [hk', k4] at this
  have hx1 : ¬ x = 0 → k ∈ net e1 e2 sd l := fun hz => by
    refine Classical.byContradiction fun hk' => hz ?_
    rw [← hx]
    refine b_ext fun i hi => ?_
    rw [ab_mask_bt _ _ (by omega) i hi, b_0]
    unfold cutb
    simp [hk']
  have loop : ∀ m i b, i + m = N → chb pr (rvc e1 e2 S N sd (net e1 e2 sd l) k) i b → ∃ r, chp pr (rvc e1 e2 S N sd (net e1 e2 sd l) k) r ∧ ab_E w ((d + 1) + 2) mt_M_rivalOf 13 [.ref mx, .int v, .int (nI k), .int x, .int b, .int (nI i)] [] (J, L, ab_RR, n, nc, ns) (.inl (some (.int r)), (J, L, ab_RR, n, nc, ns)) := by
    intro m
    induction m with
    | zero =>
      intro i b hi hb
      have e : i = N := by omega
      subst e
      refine ⟨b, chb_end hb (fun x hx => hx.1), ?_⟩
      refine r_M_rivalOf_13 hT _ _ _ _ _ (Nat.le_refl _) (Nat.le_refl _) ?_
      refine bb_t ?_ rfl
      rw [hm'.1.2.1]; exact nI_le (Nat.le_refl _) (by omega)
    | succ m ih =>
      intro i b hi hb
      have hiN : ¬ N ≤ i := by omega
      obtain ⟨q1, q2, q3, q4, q5, q6⟩ := hm'.1.2.2.2.2.2 i (by omega)
      have p2 := hm'.1.2.1
      have hsi := hm'.2.2.1 i (by omega)
      have c1 := hxb _ q4
      have c2 := hxb _ q5
      by_cases hP : rvc e1 e2 S N sd (net e1 e2 sd l) k i
      · have hik : ¬ i = k := hP.2.2.1
        have hsd := hP.2.1
        have hz := hx0 hP.2.2.2.1
        have hne := hP.2.2.2.2
        rcases hb with ⟨hb, hb2⟩ | ⟨c, hb, hc1, hc2, hc3⟩
        · subst hb
          obtain ⟨r, g1, g2⟩ := ih (i + 1) (nI i) (by omega) (chb_first hb2 hP)
          refine ⟨r, g1, ?_⟩
          refine r_M_rivalOf_13 hT _ _ _ _ _ (Nat.le_refl _) (Nat.le_refl _) ?_
          simp (disch := first | omega | decide) only [p2, hiN, hik, hsi, hsd, hz, q1, q2, c1, c2, nl_add1, nl_add2, nl_mul1, nl_mul2, nl_sub1, nl_lt1, nl_lt2, nl_le1, nl_le2, nl_eq1, nl_eq2, nl_m1, nl_m2, nl_inT, nI_add, nI_mul, nI_leI, nI_ltI, nI_eq, nI_clamp, nl_bit, oI_n, oI_s, oI_m1, true_and, and_true, eq_self, Bool.false_eq_true, not_false_eq_true, not_true_eq_false, false_implies, true_implies, implies_true, forall_const, Nat.not_lt_zero, ab_row_eq, ab_row_ne, ab_up_i, ab_up_o, pk_us, pk_un, ab_row_row]
          exact ⟨fun a => ⟨fun a' => absurd (a.trans a'.symm) hne, fun _ => g2⟩, fun a => ⟨fun _ => g2, fun a' => absurd ((Bool.not_eq_true _ ▸ a).trans (Bool.not_eq_true _ ▸ a').symm) hne⟩⟩
        · subst hb
          obtain ⟨u1, u2, u3, u4, u5, u6⟩ := hm'.1.2.2.2.2.2 c (by omega)
          have key : ∃ r, chp pr (rvc e1 e2 S N sd (net e1 e2 sd l) k) r ∧ ((pr i < pr c → ab_E w ((d + 1) + 2) mt_M_rivalOf 13 [.ref mx, .int v, .int (nI k), .int x, .int (nI i), .int (nI (i + 1))] [] (J, L, ab_RR, n, nc, ns) (.inl (some (.int r)), (J, L, ab_RR, n, nc, ns))) ∧ (¬ pr i < pr c → ((pr i = pr c → ((c ≤ i → ab_E w ((d + 1) + 2) mt_M_rivalOf 13 [.ref mx, .int v, .int (nI k), .int x, .int (nI c), .int (nI (i + 1))] [] (J, L, ab_RR, n, nc, ns) (.inl (some (.int r)), (J, L, ab_RR, n, nc, ns))) ∧ (¬ c ≤ i → ab_E w ((d + 1) + 2) mt_M_rivalOf 13 [.ref mx, .int v, .int (nI k), .int x, .int (nI i), .int (nI (i + 1))] [] (J, L, ab_RR, n, nc, ns) (.inl (some (.int r)), (J, L, ab_RR, n, nc, ns))))) ∧ (¬ pr i = pr c → ab_E w ((d + 1) + 2) mt_M_rivalOf 13 [.ref mx, .int v, .int (nI k), .int x, .int (nI c), .int (nI (i + 1))] [] (J, L, ab_RR, n, nc, ns) (.inl (some (.int r)), (J, L, ab_RR, n, nc, ns)))))) := by
            by_cases hcx : ch pr i c
            · obtain ⟨r, g1, g2⟩ := ih (i + 1) (nI i) (by omega) (chb_take hc3 hP hcx)
              exact ⟨r, g1, cmp_t hcx g2⟩
            · obtain ⟨r, g1, g2⟩ := ih (i + 1) (nI c) (by omega) (chb_keep hc1 hc2 hc3 hcx)
              exact ⟨r, g1, cmp_f hcx g2⟩
          obtain ⟨r, g1, g2⟩ := key
          refine ⟨r, g1, ?_⟩
          refine r_M_rivalOf_13 hT _ _ _ _ _ (Nat.le_refl _) (Nat.le_refl _) ?_
          simp (disch := first | omega | decide) only [p2, hiN, hik, hsi, hsd, hz, q1, q2, q3, u3, c1, c2, nl_add1, nl_add2, nl_mul1, nl_mul2, nl_sub1, nl_lt1, nl_lt2, nl_le1, nl_le2, nl_eq1, nl_eq2, nl_m1, nl_m2, nl_inT, nI_add, nI_mul, nI_leI, nI_ltI, nI_eq, nI_clamp, nl_bit, oI_n, oI_s, oI_m1, true_and, and_true, eq_self, Bool.false_eq_true, not_false_eq_true, not_true_eq_false, false_implies, true_implies, implies_true, forall_const, Nat.not_lt_zero, ab_row_eq, ab_row_ne, ab_up_i, ab_up_o, pk_us, pk_un, ab_row_row]
          exact ⟨fun a => ⟨fun a' => absurd (a.trans a'.symm) hne, fun _ => g2⟩, fun a => ⟨fun _ => g2, fun a' => absurd ((Bool.not_eq_true _ ▸ a).trans (Bool.not_eq_true _ ▸ a').symm) hne⟩⟩
      · obtain ⟨r, g1, g2⟩ := ih (i + 1) b (by omega) (chb_no hb hP)
        refine ⟨r, g1, ?_⟩
        refine r_M_rivalOf_13 hT _ _ _ _ _ (Nat.le_refl _) (Nat.le_refl _) ?_
        simp (disch := first | omega | decide) only [p2, hiN, hsi, q1, q2, c1, c2, nl_add1, nl_add2, nl_mul1, nl_mul2, nl_sub1, nl_lt1, nl_lt2, nl_le1, nl_le2, nl_eq1, nl_eq2, nl_m1, nl_m2, nl_inT, nI_add, nI_mul, nI_leI, nI_ltI, nI_eq, nI_clamp, nl_bit, oI_n, oI_s, oI_m1, true_and, and_true, eq_self, Bool.false_eq_true, not_false_eq_true, not_true_eq_false, false_implies, true_implies, implies_true, forall_const, Nat.not_lt_zero, ab_row_eq, ab_row_ne, ab_up_i, ab_up_o, pk_us, pk_un, ab_row_row]
        refine ⟨fun _ => g2, fun a => ⟨fun s => ⟨fun _ => g2, fun z => ⟨fun a1 => ⟨fun _ => g2, fun a2 => absurd ?_ hP⟩, fun a1 => ⟨fun a2 => absurd ?_ hP, fun _ => g2⟩⟩⟩, fun _ => g2⟩⟩
        · exact ⟨by omega, s, a, hx1 z, fun e => a2 (e ▸ a1)⟩
        · exact ⟨by omega, s, a, hx1 z, fun e => a1 (e ▸ a2)⟩
  obtain ⟨r, g1, g2⟩ := loop N 0 (-1) (by omega) (Or.inl ⟨rfl, fun x hx => absurd hx (Nat.not_lt_zero x)⟩)
  refine ⟨J, r, h1, g1, ?_⟩
  refine ab_C_of (by decide) rfl (Nat.le_of_ble_eq_true rfl) hT ?_
  refine r_M_rivalOf_0 hT _ _ (Nat.le_refl _) (Nat.le_refl _) ?_
  exact ⟨x, J, h2, g2⟩
/-- how many cables of a set end at a site -/
def dgr (e1 e2 : Nat → Nat) (N : Nat) (am : Nat → Bool) (s : Nat) : Nat := fa_cnt (fun k => am k && (decide (e1 k = s) || decide (e2 k = s))) N
theorem z_hub (hT : w.1.stackTraces = false) (hm : mC I S N sd e1 e2 pr fm l) : ∃ (J : Nat → Nat → Int32), mfr J I ∧ ab_PU w (d + 4) mt_M_hub [.ref mx] I L n nc ns (nI (hbf (dgr e1 e2 N (fun k => decide (k ∈ net e1 e2 sd l))) S)) J := by
  obtain ⟨J, r, h1, h2, h3⟩ := z_netNow (w := w) (d := d) (n := n) (nc := nc) (ns := ns) (L := L) hT hm
  have hf := mfr_nm h1
  have hm' := mC_fr hf hm
  have hS := hm.1.2.2.1
  have hS2 := hm.2.1
  have hN := hm.1.2.2.2.1
  refine ⟨J, hf, ?_⟩
  refine ab_C_of (by decide) rfl (Nat.le_of_ble_eq_true rfl) hT ?_
  refine r_M_hub_0 hT (Nat.le_refl _) (Nat.le_refl _) ?_
  refine ⟨r, J, h3, ?_⟩
  generalize hg : dgr e1 e2 N (fun k => decide (k ∈ net e1 e2 sd l)) = g
  have hgN : ∀ s, g s ≤ 24 := fun s => by
    rw [← hg]
    have := fa_cnt_le (fun k => (fun k => decide (k ∈ net e1 e2 sd l)) k && (decide (e1 k = s) || decide (e2 k = s))) N
    unfold dgr; omega
  have z1 : hbf g 1 = 0 := by
    rw [hbf, hbf]; split <;> rfl
  have := up_ind (N := S) (E := fun i => 1 ≤ i → ab_E w ((d + 3) + 1) mt_M_hub 9 [.ref mx, .int r, .int (nI (hbf g i)), .int (nI i)] [] (J, L, ab_RR, n, nc, ns) (.inl (some (.int (nI (hbf g S)))), (J, L, ab_RR, n, nc, ns))) ?_ ?_ 1 (by omega) (Nat.le_refl _)
  · rw [z1] at this; exact this
  · intro _
    refine r_M_hub_9 hT _ _ _ (Nat.le_refl _) (Nat.le_refl _) ?_
    refine bb_t ?_ rfl
    rw [hm'.1.1]; exact nI_le (Nat.le_refl _) (by omega)
  · intro i hi nx hi1
    have nx := nx (by omega)
    have hlt := hbf_lt g i (by omega)
    have y1 := z_endsAt (w := w) (d := d + 2) (n := n) (nc := nc) (ns := ns) (L := L) hT hm'.1 h2 (s := i) (by omega)
    have y2 := z_endsAt (w := w) (d := d + 2) (n := n) (nc := nc) (ns := ns) (L := L) hT hm'.1 h2 (s := hbf g i) (by omega)
    have e1' : fa_cnt (fun k => decide (k ∈ net e1 e2 sd l) && (decide (e1 k = i) || decide (e2 k = i))) N = g i := by rw [← hg]; rfl
    have e2' : fa_cnt (fun k => decide (k ∈ net e1 e2 sd l) && (decide (e1 k = hbf g i) || decide (e2 k = hbf g i))) N = g (hbf g i) := by rw [← hg]; rfl
    rw [e1'] at y1
    rw [e2'] at y2
    have l1 := hgN i
    have l2 := hgN (hbf g i)
    refine r_M_hub_9 hT _ _ _ (Nat.le_refl _) (Nat.le_refl _) ?_
    refine bb_f (by rw [hm'.1.1]; exact nI_ge hi (by omega)) ⟨_, y1, _, y2, ?_⟩
    rw [nI_leI (by omega) (by omega), nI_1]
    rw [hbf] at nx
    refine ⟨fun h => ?_, fun h => ?_⟩
    · rw [if_neg (by omega)] at nx; exact nx
    · rw [if_pos (by omega)] at nx; exact nx
theorem spn_le (hp : nm_pre I S N e1 e2 pr l) (hS : 0 < S) (am : Nat → Bool) (x y : Nat) : spn e1 e2 pr (net e1 e2 am l).reverse x y ≤ 8991 := by
  unfold spn
  cases h : pth e1 e2 (net e1 e2 am l).reverse x y with
  | none => exact Nat.zero_le _
  | some p =>
    have hp' := pth_pt h
    have h1 := pt_len (net_rfo hp am) hp'
    rw [List.length_reverse] at h1
    have h2 := net_len hp hS am
    have h3 := hp.2.2.1
    have h4 := sum_le (f := pr) (b := 999) p (fun k hk => (hp.2.2.2.2.2 k (net_rlt hp am k (pt_mem hp' k hk).1)).2.2.2.2.2)
    have : 999 * p.length ≤ 999 * 9 := Nat.mul_le_mul_left _ (by omega)
    show (p.map pr).sum ≤ _
    omega
/-- one step of 'the greatest span' -/
theorem z_farthest (hT : w.1.stackTraces = false) {v : Int32} {s : Nat} (hm : mC I S N sd e1 e2 pr fm l) (hv : ∀ k, k < 32 → bt v k = decide (k ∈ net e1 e2 sd l)) (hs : s < S) : ∃ (J : Nat → Nat → Int32), mfr J I ∧ ab_PU w (d + 2) mt_M_farthest [.ref mx, .int v, .int (nI s)] I L n nc ns (nI (mxf (spn e1 e2 pr (net e1 e2 sd l).reverse s) S)) J := by
  have hS := hm.1.2.2.1
  have loop : ∀ m i (J : Nat → Nat → Int32), i + m = S → mfr J I → ∃ J', mfr J' I ∧ ab_E w ((d + 1) + 1) mt_M_farthest 5 [.ref mx, .int v, .int (nI s), .int (nI (mxf (spn e1 e2 pr (net e1 e2 sd l).reverse s) i)), .int (nI i)] [] (J, L, ab_RR, n, nc, ns) (.inl (some (.int (nI (mxf (spn e1 e2 pr (net e1 e2 sd l).reverse s) S)))), (J', L, ab_RR, n, nc, ns)) := by
    intro m
    induction m with
    | zero =>
      intro i J hi hJ
      have e : i = S := by omega
      subst e
      refine ⟨J, hJ, ?_⟩
      refine r_M_farthest_5 hT _ _ _ _ (Nat.le_refl _) (Nat.le_refl _) ?_
      refine bb_t ?_ rfl
      rw [mfr_2 hJ, hm.1.1]; exact nI_le (Nat.le_refl _) (by omega)
    | succ m ih =>
      intro i J hi hJ
      have hm' := mC_fr hJ hm
      obtain ⟨J2, r, h1, h0, h2, h3⟩ := z_wayN (w := w) (d := d) (n := n) (nc := nc) (ns := ns) (L := L) (a := s) (b := i) hT hm' hv hs (by omega)
      obtain ⟨J', g1, g2⟩ := ih (i + 1) J2 (by omega) (mfr_trans h1 hJ)
      refine ⟨J', g1, ?_⟩
      have b1 : mxf (spn e1 e2 pr (net e1 e2 sd l).reverse s) i ≤ 8991 := mxf_le (fun j _ => spn_le hm.1 (by omega) sd s j)
      refine r_M_farthest_5 hT _ _ _ _ (Nat.le_refl _) (Nat.le_refl _) ?_
      refine bb_f (by rw [hm'.1.1]; exact nI_ge (by omega) (by omega)) ⟨r, J2, h3, ?_⟩
      rw [nI_1]
      rw [mxf] at g2
      rcases h2 with ⟨p, a1, a2, a3⟩ | ⟨a1, a2, a3⟩
      · have y := z_prices (w := w) (d := d) (n := n) (nc := nc) (ns := ns) (L := L) hT (nm_fr h1 hm'.1) a3
        have es : spn e1 e2 pr (net e1 e2 sd l).reverse s i = (p.map pr).sum := by unfold spn; rw [a1]
        have b2 := spn_le hm.1 (by omega) sd s i
        rw [es] at b2 g2
        refine ⟨fun e => absurd (a2 ▸ e) (nI_m1 (by have := a3.2.1; omega)), fun _ => ⟨_, y, ?_⟩⟩
        rw [ab_max_nI (by omega) (by omega)]; exact g2
      · have es : spn e1 e2 pr (net e1 e2 sd l).reverse s i = 0 := by unfold spn; rw [a1]
        rw [es, Nat.max_eq_left (Nat.zero_le _)] at g2
        exact ⟨fun _ => g2, fun e => absurd a2 e⟩
  obtain ⟨J', g1, g2⟩ := loop S 0 I (by omega) mfr_refl
  refine ⟨J', g1, ?_⟩
  refine ab_C_of (by decide) rfl (Nat.le_of_ble_eq_true rfl) hT ?_
  refine r_M_farthest_0 hT _ _ (Nat.le_refl _) (Nat.le_refl _) ?_
  exact g2
end MSO
