/-! THE MODEL: what its questions leave as it is; its small methods -/
def mscr (c : Nat) : Prop := c = mx ∨ c = mx_piece ∨ c = mx_taken ∨ c = mx_way ∨ c = mx_by ∨ c = mx_open ∨ c = mx_pricesThen ∨ c = mx_near ∨ c = mx_gone ∨ c = mx_metSites ∨ c = mx_level ∨ c = mx_column ∨ c = mx_joint ∨ c = mx_reading ∨ c = mx_rowThen
def mkf (k : Nat) : Prop := k = 1 ∨ k = 2 ∨ k = 8 ∨ k = 17 ∨ k = 41 ∨ k = 43 ∨ k = 52 ∨ k = 53 ∨ k = 54
def mfr (J I : Nat → Nat → Int32) : Prop := (∀ c, ¬ mscr c → J c = I c) ∧ ∀ k, mkf k → J mx k = I mx k
section MFR
variable {I J K : Nat → Nat → Int32} {S N : Nat} {sd : Nat → Bool} {e1 e2 pr fm : Nat → Nat} {l : List Nat}
theorem mfr_refl : mfr I I := ⟨fun _ _ => rfl, fun _ _ => rfl⟩
theorem mfr_trans (h : mfr K J) (g : mfr J I) : mfr K I := ⟨fun c hc => (h.1 c hc).trans (g.1 c hc), fun k hk => (h.2 k hk).trans (g.2 k hk)⟩
theorem mfr_row {a : Nat} {f : Nat → Int32} (h : mfr J I) (ha : mscr a) (hne : a ≠ mx) : mfr (ab_row J a f) I := ⟨fun c hc => by
    have h1 : c ≠ a := fun e => hc (by rw [e]; exact ha)
    rw [ab_row_ne h1]; exact h.1 c hc, fun k hk => by rw [ab_row_ne (fun e => hne e.symm)]; exact h.2 k hk⟩
theorem mfr_up {a k : Nat} {x : Int32} (h : mfr J I) (ha : mscr a) (hne : a ≠ mx) : mfr (ab_up J a k x) I := by rw [ab_up_row]; exact mfr_row h ha hne
theorem mfr_upx {k : Nat} {x : Int32} (h : mfr J I) (hk : ¬ mkf k) : mfr (ab_up J mx k x) I := ⟨fun c hc => by rw [ab_up_o (fun e => hc (Or.inl e))]; exact h.1 c hc, fun j hj => by
    have h1 : j ≠ k := fun e => hk (by rw [← e]; exact hj)
    rw [ab_up_i, pk_un h1]; exact h.2 j hj⟩
theorem mfr_tw (h : tw_fr J I) : mfr J I := ⟨fun c hc => h.1 c (fun e => hc (by unfold mscr; simp only [e, true_or, or_true])) (fun e => hc (by unfold mscr; simp only [e, true_or, or_true])) (fun e => hc (by unfold mscr; simp only [e, true_or, or_true])) (fun e => hc (by unfold mscr; simp only [e, true_or, or_true])), fun k hk => h.2 k (by unfold mkf at hk; omega)⟩
theorem mfr_nm {s : List Nat × (Nat → Nat)} (h : nm_st J I S pr s) : mfr J I := ⟨fun c hc => h.1 c (fun e => hc (by unfold mscr; simp only [e, true_or, or_true])) (fun e => hc (by unfold mscr; simp only [e, true_or, or_true])) (fun e => hc (by unfold mscr; simp only [e, true_or, or_true])), fun k hk => h.2.1 k (by unfold mkf at hk; omega) (by unfold mkf at hk; omega)⟩
theorem mfr_now (h : mfr J I) : J mx_now = I mx_now := h.1 mx_now (by unfold mscr; decide)
theorem mfr_2 (h : mfr J I) : J mx 2 = I mx 2 := h.2 2 (Or.inr (Or.inl rfl))
/-- what the model's row says -/
def mC (I : Nat → Nat → Int32) (S N : Nat) (sd : Nat → Bool) (e1 e2 pr fm : Nat → Nat) (l : List Nat) : Prop :=
  nm_pre I S N e1 e2 pr l ∧ 2 ≤ S ∧ (∀ k, k < 32 → bt (I mx_now 1) k = sd k) ∧ (∀ k, sd k = true → k < N) ∧ ∀ k, k < N → I mx_now (75 + k) = nI (fm k) ∧ fm k < 4 ∧ 1 ≤ pr k ∧ e1 k ≠ e2 k
theorem nm_fr (h : mfr J I) (g : nm_pre I S N e1 e2 pr l) : nm_pre J S N e1 e2 pr l := by
  unfold nm_pre at *
  rw [mfr_2 h, mfr_now h]; exact g
theorem mC_fr (h : mfr J I) (g : mC I S N sd e1 e2 pr fm l) : mC J S N sd e1 e2 pr fm l := by
  unfold mC at *
  rw [mfr_now h]; exact ⟨nm_fr h g.1, g.2⟩
theorem net_w (hp : nm_pre I S N e1 e2 pr l) (am : Nat → Bool) : ew e1 e2 S (l.filter am) := fun k hk => by
  have := (hp.2.2.2.2.1.2 k).mp (List.mem_filter.mp hk).1
  exact ⟨(hp.2.2.2.2.2 k this).2.2.2.1, (hp.2.2.2.2.2 k this).2.2.2.2.1⟩
theorem net_le (hp : nm_pre I S N e1 e2 pr l) (am : Nat → Bool) : (net e1 e2 am l).length ≤ S := by
  have := kr_cnt _ (net_w hp am)
  unfold net; omega
theorem net_len (hp : nm_pre I S N e1 e2 pr l) (hS : 0 < S) (am : Nat → Bool) : (net e1 e2 am l).length + 1 ≤ S := by
  have := fo_len (S := S) _ (kr_fo _ (net_w hp am)) (fun k hk => net_w hp am k (kr_sub _ k (List.mem_reverse.mp hk))) hS
  rw [List.length_reverse] at this
  exact this
theorem net_lt (hp : nm_pre I S N e1 e2 pr l) {am : Nat → Bool} {k : Nat} (h : k ∈ net e1 e2 am l) : k < N ∧ am k = true := by
  have := List.mem_filter.mp (kr_sub _ k h)
  exact ⟨(hp.2.2.2.2.1.2 k).mp this.1, this.2⟩
theorem sum_le {f : Nat → Nat} {b : Nat} : ∀ (p : List Nat), (∀ k ∈ p, f k ≤ b) → (p.map f).sum ≤ b * p.length := by
  intro p
  induction p with
  | nil => intro _; simp
  | cons c p ih =>
    intro h
    have h1 := h c List.mem_cons_self
    have h2 := ih (fun k hk => h k (List.mem_cons_of_mem _ hk))
    rw [List.map_cons, List.sum_cons, List.length_cons, Nat.mul_add]
    omega
theorem net_sum (hp : nm_pre I S N e1 e2 pr l) (am : Nat → Bool) : ((net e1 e2 am l).map pr).sum ≤ 9990 := by
  have h1 := sum_le (f := pr) (b := 999) (net e1 e2 am l) (fun k hk => (hp.2.2.2.2.2 k (net_lt hp hk).1).2.2.2.2.2)
  have h2 := net_le hp am
  have h3 := hp.2.2.1
  have : 999 * (net e1 e2 am l).length ≤ 999 * 10 := Nat.mul_le_mul_left _ (by omega)
  omega
end MFR
theorem take_snoc {p : List Nat} {i : Nat} (h : i < p.length) : p.take (i + 1) = p.take i ++ [p.getD i 0] := by
  rw [List.take_succ, List.getD_eq_getElem?_getD, List.getElem?_eq_getElem h]; rfl
theorem dst_snoc {pr : Nat → Nat} {q : List Nat} {c x : Nat} (h : dst pr q c) : (ch pr c x → dst pr (q ++ [x]) x) ∧ (¬ ch pr c x → dst pr (q ++ [x]) c) := by
  refine ⟨fun g => ⟨List.mem_append_right _ List.mem_cons_self, fun j hj => ?_⟩, fun g => ⟨List.mem_append_left _ h.1, fun j hj => ?_⟩⟩
  · rcases List.mem_append.mp hj with hj | hj
    · rcases h.2 j hj with e | e
      · rw [e]; exact Or.inr g
      · exact Or.inr (ch_trans e g)
    · exact Or.inl (List.mem_singleton.mp hj)
  · rcases List.mem_append.mp hj with hj | hj
    · exact h.2 j hj
    · rw [List.mem_singleton.mp hj]
      by_cases e : x = c
      · exact Or.inl e
      · exact Or.inr ((ch_total e).resolve_right g)
/-- the answer 'the dearest' -/
def dI (pr : Nat → Nat) (p : List Nat) (r : Int32) : Prop := (p = [] ∧ r = -1) ∨ ∃ c, dst pr p c ∧ r = nI c
/-- a way lies in the model's cells -/
def wy (I : Nat → Nat → Int32) (N : Nat) (p : List Nat) : Prop := I mx 26 = nI p.length ∧ p.length ≤ 9 ∧ (∀ j, j < p.length → I mx_way j = nI (p.getD j 0)) ∧ ∀ k ∈ p, k < N
section MSM
variable {w : ab_Wd} {d n nc ns : Nat} {I : Nat → Nat → Int32} {L : Nat → Nat → Int64}
variable {S N : Nat} {sd : Nat → Bool} {e1 e2 pr fm : Nat → Nat} {l : List Nat}
theorem z_netNow (hT : w.1.stackTraces = false) (hm : mC I S N sd e1 e2 pr fm l) : ∃ (J : Nat → Nat → Int32) (r : Int32), nm_st J I S pr (kr e1 e2 (l.filter sd)) ∧ (∀ k, k < 32 → bt r k = decide (k ∈ net e1 e2 sd l)) ∧ ab_PU w (d + 3) mt_M_netNow [.ref mx] I L n nc ns r J := by
  obtain ⟨J, r, h1, h2, h3⟩ := z_netOf (w := w) (d := d) (n := n) (nc := nc) (ns := ns) (L := L) hT hm.1 hm.2.2.1 hm.2.2.2.1
  refine ⟨J, r, h1, h2, ?_⟩
  refine ab_C_of (by decide) rfl (Nat.le_of_ble_eq_true rfl) hT ?_
  refine r_M_netNow_0 hT (Nat.le_refl _) (Nat.le_refl _) ?_
  exact ⟨r, J, h3, rfl⟩
theorem z_totalNow (hT : w.1.stackTraces = false) (hm : mC I S N sd e1 e2 pr fm l) : ∃ (J : Nat → Nat → Int32), mfr J I ∧ ab_PU w (d + 4) mt_M_totalNow [.ref mx] I L n nc ns (nI ((net e1 e2 sd l).map pr).sum) J := by
  obtain ⟨J, r, h1, h2, h3⟩ := z_netNow (w := w) (d := d) (n := n) (nc := nc) (ns := ns) (L := L) hT hm
  refine ⟨J, mfr_nm h1, ?_⟩
  refine ab_C_of (by decide) rfl (Nat.le_of_ble_eq_true rfl) hT ?_
  refine r_M_totalNow_0 hT (Nat.le_refl _) (Nat.le_refl _) ?_
  exact ⟨r, J, h3, by rw [h1.2.2.2.1]; rfl⟩
theorem z_piecesNow (hT : w.1.stackTraces = false) (hm : mC I S N sd e1 e2 pr fm l) : ∃ (J : Nat → Nat → Int32), mfr J I ∧ ab_PU w (d + 4) mt_M_piecesNow [.ref mx] I L n nc ns (nI (S - (net e1 e2 sd l).length)) J := by
  obtain ⟨J, r, h1, h2, h3⟩ := z_netNow (w := w) (d := d) (n := n) (nc := nc) (ns := ns) (L := L) hT hm
  refine ⟨J, mfr_nm h1, ?_⟩
  refine ab_C_of (by decide) rfl (Nat.le_of_ble_eq_true rfl) hT ?_
  refine r_M_piecesNow_0 hT (Nat.le_refl _) (Nat.le_refl _) ?_
  refine ⟨r, J, h3, ?_⟩
  have := net_le hm.1 sd
  have t1 : J mx 21 = nI (net e1 e2 sd l).length := h1.2.2.1
  rw [mfr_2 (mfr_nm h1), hm.1.1, t1, nI_sub this]
/-- all costs so much more without some cables -/
def ls_v (pr : Nat → Nat) (A B : List Nat) : Int32 := if B.length < A.length then -1 else nI (B.map pr).sum - nI (A.map pr).sum
theorem z_lossOf (hT : w.1.stackTraces = false) (hm : mC I S N sd e1 e2 pr fm l) {x : Int32} {xo : Nat → Bool} (hx : ∀ k, k < 32 → bt x k = xo k) : ∃ (J : Nat → Nat → Int32), mfr J I ∧ ab_PU w (d + 4) mt_M_lossOf [.ref mx, .int x] I L n nc ns (ls_v pr (net e1 e2 sd l) (net e1 e2 (fun k => sd k && !xo k) l)) J := by
  obtain ⟨J, r, h1, h2, h3⟩ := z_netNow (w := w) (d := d) (n := n) (nc := nc) (ns := ns) (L := L) hT hm
  have hf := mfr_nm h1
  obtain ⟨J2, r2, g1, g2, g3⟩ := z_netOf (w := w) (d := d + 1) (n := n) (nc := nc) (ns := ns) (L := L) (am := fun k => sd k && !xo k) (v := (J mx_now 1) &&& (x ^^^ (-1))) hT (nm_fr hf hm.1) (fun k hk => by rw [b_and, ab_bnot _ hk, mfr_now hf, hm.2.2.1 k hk, hx k hk]) (fun k hk => hm.2.2.2.1 k (by simp at hk; exact hk.1))
  have hf2 := mfr_nm g1
  refine ⟨J2, mfr_trans hf2 hf, ?_⟩
  have l1 := net_le hm.1 sd
  have l2 := net_le hm.1 (fun k => sd k && !xo k)
  have hS := hm.1.2.2.1
  refine ab_C_of (by decide) rfl (Nat.le_of_ble_eq_true rfl) hT ?_
  refine r_M_lossOf_0 hT _ (Nat.le_refl _) (Nat.le_refl _) ?_
  refine ⟨r, J, h3, r2, J2, g3, ?_⟩
  have t1 : J mx 21 = nI (net e1 e2 sd l).length := h1.2.2.1
  have t2 : J mx 22 = nI ((net e1 e2 sd l).map pr).sum := h1.2.2.2.1
  have t3 : J2 mx 21 = nI (net e1 e2 (fun k => sd k && !xo k) l).length := g1.2.2.1
  have t4 : J2 mx 22 = nI ((net e1 e2 (fun k => sd k && !xo k) l).map pr).sum := g1.2.2.2.1
  rw [mfr_2 hf2, mfr_2 hf, hm.1.1, t1, t2, t3, t4, nI_sub l1, nI_sub l2, nI_leI (by omega) (by omega)]
  unfold ls_v
  refine ⟨fun h => ?_, fun h => ?_⟩
  · rw [if_neg (by omega)]
  · rw [if_pos (by omega)]
theorem z_isApart (hT : w.1.stackTraces = false) (hm : mC I S N sd e1 e2 pr fm l) {x : Int32} {xo : Nat → Bool} (hx : ∀ k, k < 32 → bt x k = xo k) : ∃ (J : Nat → Nat → Int32), mfr J I ∧ (∀ k, k ≠ 21 → k ≠ 22 → J mx k = I mx k) ∧ ab_PU w (d + 3) mt_M_isApart [.ref mx, .int x, .int (nI (S - (net e1 e2 sd l).length))] I L n nc ns (if (net e1 e2 (fun k => sd k && !xo k) l).length < (net e1 e2 sd l).length then 1 else 0) J := by
  obtain ⟨J2, r2, g1, g2, g3⟩ := z_netOf (w := w) (d := d) (n := n) (nc := nc) (ns := ns) (L := L) (am := fun k => sd k && !xo k) (v := (I mx_now 1) &&& (x ^^^ (-1))) hT hm.1 (fun k hk => by rw [b_and, ab_bnot _ hk, hm.2.2.1 k hk, hx k hk]) (fun k hk => hm.2.2.2.1 k (by simp at hk; exact hk.1))
  have hf2 := mfr_nm g1
  refine ⟨J2, hf2, g1.2.1, ?_⟩
  have l1 := net_le hm.1 sd
  have l2 := net_le hm.1 (fun k => sd k && !xo k)
  have hS := hm.1.2.2.1
  refine ab_C_of (by decide) rfl (Nat.le_of_ble_eq_true rfl) hT ?_
  refine r_M_isApart_0 hT _ _ (Nat.le_refl _) (Nat.le_refl _) ?_
  refine ⟨r2, J2, g3, ?_⟩
  have t3 : J2 mx 21 = nI (net e1 e2 (fun k => sd k && !xo k) l).length := g1.2.2.1
  rw [mfr_2 hf2, hm.1.1, t3, nI_sub l2, nI_leI (by omega) (by omega)]
  refine ⟨fun h => ?_, fun h => ?_⟩
  · rw [if_neg (by omega)]
  · rw [if_pos (by omega)]
theorem z_endsAt (hT : w.1.stackTraces = false) (hp : nm_pre I S N e1 e2 pr l) {v : Int32} {am : Nat → Bool} (hv : ∀ k, k < 32 → bt v k = am k) {s : Nat} (hs : s < S) : ab_P w (d + 1) mt_M_endsAt [.ref mx, .int v, .int (nI s)] I L n nc ns (nI (fa_cnt (fun k => am k && (decide (e1 k = s) || decide (e2 k = s))) N)) := by
  obtain ⟨p1, p2, p3, p4, p5, p6⟩ := hp
  refine ab_C_of (by decide) rfl (Nat.le_of_ble_eq_true rfl) hT ?_
  refine r_M_endsAt_0 hT _ _ (Nat.le_refl _) (Nat.le_refl _) ?_
  refine up_ind (N := N) (E := fun i => ab_E w (d + 1) mt_M_endsAt 5 [.ref mx, .int v, .int (nI s), .int (nI (fa_cnt (fun k => am k && (decide (e1 k = s) || decide (e2 k = s))) i)), .int (nI i)] [] (I, L, ab_RR, n, nc, ns) (.inl (some (.int (nI (fa_cnt (fun k => am k && (decide (e1 k = s) || decide (e2 k = s))) N)))), (I, L, ab_RR, n, nc, ns))) ?_ ?_ 0 (Nat.zero_le _)
  · refine r_M_endsAt_5 hT _ _ _ _ (Nat.le_refl _) (Nat.le_refl _) ?_
    refine ⟨fun _ => rfl, fun h => absurd ?_ h⟩
    rw [p2]; exact nI_le (Nat.le_refl _) (by omega)
  · intro i hi nx
    obtain ⟨q1, q2, q3, q4, q5, q6⟩ := p6 i hi
    have hiN : ¬ N ≤ i := by omega
    have hvi := hv i (by omega)
    have hc := fa_cnt_le (fun k => am k && (decide (e1 k = s) || decide (e2 k = s))) i
    refine r_M_endsAt_5 hT _ _ _ _ (Nat.le_refl _) (Nat.le_refl _) ?_
    simp (disch := first | omega | decide) only [p2, hiN, hvi, q1, q2, Nat.add_zero, nl_add1, nl_add2, nl_mul1, nl_mul2, nl_sub1, nl_lt1, nl_lt2, nl_le1, nl_le2, nl_eq1, nl_eq2, nl_m1, nl_m2, nl_inT, nI_add, nI_mul, nI_leI, nI_ltI, nI_eq, nI_clamp, nl_bit, oI_n, oI_s, oI_m1, true_and, and_true, eq_self, Bool.false_eq_true, not_false_eq_true, not_true_eq_false, false_implies, true_implies, implies_true, forall_const, Nat.not_lt_zero, ab_row_eq, ab_row_ne, ab_up_i, ab_up_o, pk_us, pk_un, ab_row_row]
    refine ⟨fun ha => ⟨fun e => ?_, fun e => ⟨fun e' => ?_, fun e' => ?_⟩⟩, fun ha => ?_⟩
    · rw [fa_cnt_yes (by simp [ha, e])] at nx; exact nx
    · rw [fa_cnt_yes (by simp [ha, e'])] at nx; exact nx
    · rw [fa_cnt_no (by simp [e, e'])] at nx; exact nx
    · rw [fa_cnt_no (by simp [ha])] at nx; exact nx
theorem z_dearest (hT : w.1.stackTraces = false) (hp : nm_pre I S N e1 e2 pr l) {p : List Nat} (hw : wy I N p) : ∃ r, dI pr p r ∧ ab_P w (d + 2) mt_M_dearestOnWay [.ref mx] I L n nc ns r := by
  obtain ⟨p1, p2, p3, p4, p5, p6⟩ := hp
  obtain ⟨w1, w2, w3, w4⟩ := hw
  have loop : ∀ m i b, i + m = p.length → dI pr (p.take i) b → ∃ r, dI pr p r ∧ ab_E w (d + 2) mt_M_dearestOnWay 4 [.ref mx, .int b, .int (nI i)] [] (I, L, ab_RR, n, nc, ns) (.inl (some (.int r)), (I, L, ab_RR, n, nc, ns)) := by
    intro m
    induction m with
    | zero =>
      intro i b hi hb
      rw [List.take_of_length_le (by omega)] at hb
      refine ⟨b, hb, ?_⟩
      refine r_M_dearestOnWay_4 hT _ _ (Nat.le_refl _) (Nat.le_refl _) ?_
      refine bb_t ?_ rfl
      rw [w1]; exact nI_le (by omega) (by omega)
    | succ m ih =>
      intro i b hi hb
      have hil : ¬ p.length ≤ i := by omega
      have r1 := w3 i (by omega)
      have hkN := w4 _ (getD_mem (Q := p) (j := i) (by omega))
      have ts := take_snoc (p := p) (i := i) (by omega)
      generalize p.getD i 0 = x at *
      obtain ⟨-, -, q3, -, -, q6⟩ := p6 x hkN
      rcases hb with ⟨hb, e⟩ | ⟨c, hc, e⟩
      · subst e
        obtain ⟨r, g1, g2⟩ := ih (i + 1) (nI x) (by omega) (Or.inr ⟨x, by rw [ts, hb]; exact ⟨List.mem_cons_self, fun j hj => Or.inl (List.mem_singleton.mp hj)⟩, rfl⟩)
        refine ⟨r, g1, ?_⟩
        refine r_M_dearestOnWay_4 hT _ _ (Nat.le_refl _) (Nat.le_refl _) ?_
        simp (disch := first | omega | decide) only [w1, hil, r1, nl_add1, nl_add2, nl_mul1, nl_mul2, nl_sub1, nl_lt1, nl_lt2, nl_le1, nl_le2, nl_eq1, nl_eq2, nl_m1, nl_m2, nl_inT, nI_add, nI_mul, nI_leI, nI_ltI, nI_eq, nI_clamp, nl_bit, oI_n, oI_s, oI_m1, true_and, and_true, eq_self, Bool.false_eq_true, not_false_eq_true, not_true_eq_false, false_implies, true_implies, implies_true, forall_const, Nat.not_lt_zero, ab_row_eq, ab_row_ne, ab_up_i, ab_up_o, pk_us, pk_un, ab_row_row]
        exact g2
      · subst e
        have hcN : c < N := w4 c (List.mem_of_mem_take hc.1)
        obtain ⟨-, -, u3, -, -, u6⟩ := p6 c hcN
        obtain ⟨s1, s2⟩ := dst_snoc (x := x) hc
        rw [← ts] at s1 s2
        by_cases hcx : ch pr c x
        · obtain ⟨r, g1, g2⟩ := ih (i + 1) (nI x) (by omega) (Or.inr ⟨x, s1 hcx, rfl⟩)
          refine ⟨r, g1, ?_⟩
          unfold ch at hcx
          refine r_M_dearestOnWay_4 hT _ _ (Nat.le_refl _) (Nat.le_refl _) ?_
          simp (disch := first | omega | decide) only [w1, hil, r1, q3, u3, nl_add1, nl_add2, nl_mul1, nl_mul2, nl_sub1, nl_lt1, nl_lt2, nl_le1, nl_le2, nl_eq1, nl_eq2, nl_m1, nl_m2, nl_inT, nI_add, nI_mul, nI_leI, nI_ltI, nI_eq, nI_clamp, nl_bit, oI_n, oI_s, oI_m1, true_and, and_true, eq_self, Bool.false_eq_true, not_false_eq_true, not_true_eq_false, false_implies, true_implies, implies_true, forall_const, Nat.not_lt_zero, ab_row_eq, ab_row_ne, ab_up_i, ab_up_o, pk_us, pk_un, ab_row_row]
          exact ⟨fun _ => g2, fun h => ⟨fun h' => ⟨fun h9 => absurd h9 (by omega), fun _ => g2⟩, fun h' => absurd hcx (by omega)⟩⟩
        · obtain ⟨r, g1, g2⟩ := ih (i + 1) (nI c) (by omega) (Or.inr ⟨c, s2 hcx, rfl⟩)
          refine ⟨r, g1, ?_⟩
          unfold ch at hcx
          refine r_M_dearestOnWay_4 hT _ _ (Nat.le_refl _) (Nat.le_refl _) ?_
          simp (disch := first | omega | decide) only [w1, hil, r1, q3, u3, nl_add1, nl_add2, nl_mul1, nl_mul2, nl_sub1, nl_lt1, nl_lt2, nl_le1, nl_le2, nl_eq1, nl_eq2, nl_m1, nl_m2, nl_inT, nI_add, nI_mul, nI_leI, nI_ltI, nI_eq, nI_clamp, nl_bit, oI_n, oI_s, oI_m1, true_and, and_true, eq_self, Bool.false_eq_true, not_false_eq_true, not_true_eq_false, false_implies, true_implies, implies_true, forall_const, Nat.not_lt_zero, ab_row_eq, ab_row_ne, ab_up_i, ab_up_o, pk_us, pk_un, ab_row_row]
          exact ⟨fun h => absurd h (by omega), fun h => ⟨fun h' => ⟨fun _ => g2, fun h9 => absurd h9 (by omega)⟩, fun _ => g2⟩⟩
  obtain ⟨r, g1, g2⟩ := loop p.length 0 (-1) (by omega) (Or.inl ⟨rfl, rfl⟩)
  refine ⟨r, g1, ?_⟩
  refine ab_C_of (by decide) rfl (Nat.le_of_ble_eq_true rfl) hT ?_
  refine r_M_dearestOnWay_0 hT (Nat.le_refl _) (Nat.le_refl _) ?_
  exact g2
theorem z_prices (hT : w.1.stackTraces = false) (hp : nm_pre I S N e1 e2 pr l) {p : List Nat} (hw : wy I N p) : ab_P w (d + 1) mt_M_pricesOnWay [.ref mx] I L n nc ns (nI (p.map pr).sum) := by
  obtain ⟨p1, p2, p3, p4, p5, p6⟩ := hp
  obtain ⟨w1, w2, w3, w4⟩ := hw
  refine ab_C_of (by decide) rfl (Nat.le_of_ble_eq_true rfl) hT ?_
  refine r_M_pricesOnWay_0 hT (Nat.le_refl _) (Nat.le_refl _) ?_
  refine up_ind (N := p.length) (E := fun i => ab_E w (d + 1) mt_M_pricesOnWay 4 [.ref mx, .int (nI ((p.take i).map pr).sum), .int (nI i)] [] (I, L, ab_RR, n, nc, ns) (.inl (some (.int (nI (p.map pr).sum))), (I, L, ab_RR, n, nc, ns))) ?_ ?_ 0 (Nat.zero_le _)
  · refine r_M_pricesOnWay_4 hT _ _ (Nat.le_refl _) (Nat.le_refl _) ?_
    refine bb_t ?_ ?_
    · rw [w1]; exact nI_le (by omega) (by omega)
    · rw [List.take_length]
  · intro i hi nx
    have hil : ¬ p.length ≤ i := by omega
    have r1 := w3 i (by omega)
    have hkN := w4 _ (getD_mem (Q := p) (j := i) (by omega))
    rw [take_snoc hi] at nx
    generalize p.getD i 0 = x at *
    obtain ⟨-, -, q3, -, -, q6⟩ := p6 x hkN
    refine r_M_pricesOnWay_4 hT _ _ (Nat.le_refl _) (Nat.le_refl _) ?_
    simp (disch := first | omega | decide) only [w1, hil, r1, q3, nl_add1, nl_add2, nl_mul1, nl_mul2, nl_sub1, nl_lt1, nl_lt2, nl_le1, nl_le2, nl_eq1, nl_eq2, nl_m1, nl_m2, nl_inT, nI_add, nI_mul, nI_leI, nI_ltI, nI_eq, nI_clamp, nl_bit, oI_n, oI_s, oI_m1, true_and, and_true, eq_self, Bool.false_eq_true, not_false_eq_true, not_true_eq_false, false_implies, true_implies, implies_true, forall_const, Nat.not_lt_zero, ab_row_eq, ab_row_ne, ab_up_i, ab_up_o, pk_us, pk_un, ab_row_row]
    rw [List.map_append, List.sum_append] at nx
    simp only [List.map_cons, List.map_nil, List.sum_cons, List.sum_nil, Nat.add_zero] at nx
    exact nx
end MSM
