/-! TOLD: the model; the two side by side -/
/-- one sign is told -/
def ps (J : Nat → Nat → Int32) (s : Int32) : Nat → Nat → Int32 := if J mx 38 = J mx 37 then ab_up (ab_up J mx 39 s) mx 38 (J mx 38 + 1) else ab_up J mx 38 (J mx 38 + 1)
def pkt (o : Option Nat) (t : List Nat) : Int32 := match o with
  | none => -1
  | some i => if i < t.length then nI (t.getD i 0) else -1
/-- the model's text so far: its length, and the sign that is asked for -/
def mS (J : Nat → Nat → Int32) (v : Int32) (o : Option Nat) (t : List Nat) : Prop := J mx 38 = nI t.length ∧ J mx 37 = v ∧ J mx 39 = pkt o t ∧ (∀ k, k < 1000 → (nI k = v ↔ o = some k))
def mtf (J I : Nat → Nat → Int32) : Prop := (∀ c, c ≠ mx → J c = I c) ∧ ∀ k, k ≠ 38 → k ≠ 39 → J mx k = I mx k
theorem mtf_trans {K J I : Nat → Nat → Int32} (h : mtf K J) (g : mtf J I) : mtf K I := ⟨fun c hc => (h.1 c hc).trans (g.1 c hc), fun k h1 h2 => (h.2 k h1 h2).trans (g.2 k h1 h2)⟩
theorem ps_mtf {J : Nat → Nat → Int32} {s : Int32} : mtf (ps J s) J := by
  unfold ps
  split
  · exact ⟨fun c hc => by rw [ab_up_o hc, ab_up_o hc], fun k h1 h2 => by rw [ab_up_i, pk_un h1, ab_up_i, pk_un h2]⟩
  · exact ⟨fun c hc => by rw [ab_up_o hc], fun k h1 h2 => by rw [ab_up_i, pk_un h1]⟩
theorem ps_mS {J : Nat → Nat → Int32} {v : Int32} {o : Option Nat} {t : List Nat} {s : Nat} (h : mS J v o t) (hl : t.length < 1000) : mS (ps J (nI s)) v o (t ++ [s]) := by
  obtain ⟨h1, h2, h3, h4⟩ := h
  have hlen : (t ++ [s]).length = t.length + 1 := by rw [List.length_append]; rfl
  unfold ps
  by_cases e : J mx 38 = J mx 37
  · rw [if_pos e]
    have eo : o = some t.length := (h4 t.length hl).mp (by rw [← h1, e, h2])
    refine ⟨by rw [ab_up_i, pk_us, h1, hlen]; exact nI_1 _, by rw [ab_up_i, pk_un (by omega), ab_up_i, pk_un (by omega)]; exact h2, ?_, h4⟩
    rw [ab_up_i, pk_un (by omega), ab_up_i, pk_us, eo]
    unfold pkt
    simp only []
    rw [if_pos (by omega), List.getD_eq_getElem?_getD, List.getElem?_append_right (Nat.le_refl _)]
    simp
  · rw [if_neg e]
    have eo : o ≠ some t.length := fun h => e (by rw [h1, h2]; exact (h4 t.length hl).mpr h)
    refine ⟨by rw [ab_up_i, pk_us, h1, hlen]; exact nI_1 _, by rw [ab_up_i, pk_un (by omega)]; exact h2, ?_, h4⟩
    rw [ab_up_i, pk_un (by omega), h3]
    unfold pkt
    cases o with
    | none => rfl
    | some i =>
      have : i ≠ t.length := fun h => eo (by rw [h])
      simp only []
      by_cases g : i < t.length
      · rw [if_pos g, if_pos (by omega), List.getD_eq_getElem?_getD, List.getD_eq_getElem?_getD, List.getElem?_append_left g]
      · rw [if_neg g, if_neg (by omega)]
theorem sg_app {t u : List Nat} (h : ∀ s ∈ t, s < 128) (g : ∀ s ∈ u, s < 128) : ∀ s ∈ t ++ u, s < 128 := fun s hs => (List.mem_append.mp hs).elim (h s) (g s)
theorem sg_wd : ∀ j, j < 8 → ∀ s ∈ wdS j, s < 128 := by decide
theorem sg_dg : ∀ a, a < 1000 → ∀ s ∈ dgs a, s < 128 := by decide +kernel
theorem sg_tl {S N : Nat} {sd : Nat → Bool} {e1 e2 pr fm : Nat → Nat} (hS : S ≤ 10) (hN : N ≤ 24) (h : ∀ k, k < N → e1 k < 10 ∧ e2 k < 10 ∧ pr k ≤ 999 ∧ fm k < 4) : ∀ s ∈ tlB (tlA S e1 e2 pr fm N) sd N, s < 128 := by
  have hA : ∀ i, i ≤ N → ∀ s ∈ tlA S e1 e2 pr fm i, s < 128 := by
    intro i
    induction i with
    | zero => intro _; exact sg_app (sg_app (sg_wd 3 (by omega)) (sg_dg S (by omega))) (sg_wd 6 (by omega))
    | succ i ih =>
      intro hi
      obtain ⟨h1, h2, h3, h4⟩ := h i (by omega)
      exact sg_app (ih (by omega)) (sg_app (sg_app (sg_app (sg_app (sg_app (sg_app (sg_app (sg_app (sg_wd 4 (by omega)) (sg_dg _ (by omega))) (sg_wd 5 (by omega))) (sg_dg _ (by omega))) (sg_wd 5 (by omega))) (sg_dg _ (by omega))) (sg_wd 5 (by omega))) (sg_dg _ (by omega))) (sg_wd 6 (by omega)))
  have hB : ∀ i, i ≤ N → ∀ s ∈ tlB (tlA S e1 e2 pr fm N) sd i, s < 128 := by
    intro i
    induction i with
    | zero => intro _; exact hA N (Nat.le_refl _)
    | succ i ih =>
      intro hi
      rw [tlB]
      split
      · exact ih (by omega)
      · exact sg_app (ih (by omega)) (sg_app (sg_app (sg_wd 7 (by omega)) (sg_dg _ (by omega))) (sg_wd 6 (by omega)))
  exact hB N (Nat.le_refl _)
section MTL
variable {w : ab_Wd} {d n nc ns : Nat} {I : Nat → Nat → Int32} {L : Nat → Nat → Int64}
variable {S N : Nat} {sd : Nat → Bool} {e1 e2 pr fm : Nat → Nat} {l : List Nat}
theorem ps_t {J K : Nat → Nat → Int32} {s : Int32} {m : ab_Me} {as : List Value} (hb : J mx 38 = J mx 37) (c : ab_U w d m as (ps J s) L n nc ns K) : ab_U w d m as (ab_up (ab_up J mx 39 s) mx 38 (J mx 38 + 1)) L n nc ns K := by
  unfold ps at c; rw [if_pos hb] at c; exact c
theorem ps_f {J K : Nat → Nat → Int32} {s : Int32} {m : ab_Me} {as : List Value} (hb : ¬ J mx 38 = J mx 37) (c : ab_U w d m as (ps J s) L n nc ns K) : ab_U w d m as (ab_up J mx 38 (J mx 38 + 1)) L n nc ns K := by
  unfold ps at c; rw [if_neg hb] at c; exact c
theorem pe_t {J : Nat → Nat → Int32} {s : Int32} {P : (Nat → Nat → Int32) → Prop} (hb : J mx 38 = J mx 37) (c : P (ps J s)) : P (ab_up (ab_up J mx 39 s) mx 38 (J mx 38 + 1)) := by
  unfold ps at c; rw [if_pos hb] at c; exact c
theorem pe_f {J : Nat → Nat → Int32} {s : Int32} {P : (Nat → Nat → Int32) → Prop} (hb : ¬ J mx 38 = J mx 37) (c : P (ps J s)) : P (ab_up J mx 38 (J mx 38 + 1)) := by
  unfold ps at c; rw [if_neg hb] at c; exact c
theorem z_tellWord (hT : w.1.stackTraces = false) {j : Nat} (hj : j < 8) {v : Int32} {o : Option Nat} {t : List Nat} (ht : mS I v o t) (hl : t.length + 7 < 1000) : ∃ J, mtf J I ∧ mS J v o (t ++ wdS j) ∧ ab_U w (d + 4) mt_M_tellWord [.ref mx, .ref (64 * j + 32)] I L n nc ns J := by
  obtain ⟨l1, l2, l3⟩ := wd_len j hj
  have loop : ∀ m i (K : Nat → Nat → Int32), i + m = (wdS j).length → mtf K I → mS K v o (t ++ (wdS j).take i) → ∃ J, mtf J I ∧ mS J v o (t ++ wdS j) ∧ ab_E w (d + 4) mt_M_tellWord 2 [.ref mx, .ref (64 * j + 32), .int (nI i)] [] (K, L, ab_RR, n, nc, ns) (.inl none, (J, L, ab_RR, n, nc, ns)) := by
    intro m
    induction m with
    | zero =>
      intro i K hi h1 h2
      rw [List.take_of_length_le (by omega)] at h2
      refine ⟨K, h1, h2, ?_⟩
      refine r_M_tellWord_2 hT hj _ (Nat.le_refl _) (Nat.le_refl _) ?_
      exact ⟨_, k_strLen (d := d + 2) hT hj, bb_t (nI_le (by omega) (by omega)) rfl⟩
    | succ m ih =>
      intro i K hi h1 h2
      have hlen : (t ++ (wdS j).take i).length = t.length + i := by rw [List.length_append, List.length_take]; omega
      have h3 := ps_mS (s := (wdS j).getD i 0) h2 (by omega)
      have e : (t ++ (wdS j).take i) ++ [(wdS j).getD i 0] = t ++ (wdS j).take (i + 1) := by
        rw [List.append_assoc, List.getD_eq_getElem?_getD, List.getElem?_eq_getElem (show i < (wdS j).length by omega)]
        rw [← List.take_append_getElem (show i < (wdS j).length by omega)]; rfl
      rw [e] at h3
      obtain ⟨J, b1, b2, b3⟩ := ih (i + 1) _ (by omega) (mtf_trans ps_mtf h1) h3
      refine ⟨J, b1, b2, ?_⟩
      refine r_M_tellWord_2 hT hj _ (Nat.le_refl _) (Nat.le_refl _) ?_
      refine ⟨_, k_strLen (d := d + 2) hT hj, bb_f (nI_ge (by omega) (by omega)) ⟨_, k_charAt (d := d) hT hj (by omega), ?_⟩⟩
      rw [nI_1]
      exact ⟨fun hb => pe_t (P := fun X => ab_E w (d + 4) mt_M_tellWord 2 [.ref mx, .ref (64 * j + 32), .int (nI (i + 1))] [] (X, L, ab_RR, n, nc, ns) (.inl none, (J, L, ab_RR, n, nc, ns))) hb b3, fun hb => pe_f (P := fun X => ab_E w (d + 4) mt_M_tellWord 2 [.ref mx, .ref (64 * j + 32), .int (nI (i + 1))] [] (X, L, ab_RR, n, nc, ns) (.inl none, (J, L, ab_RR, n, nc, ns))) hb b3⟩
  obtain ⟨J, b1, b2, b3⟩ := loop (wdS j).length 0 I (by omega) ⟨fun _ _ => rfl, fun _ _ _ => rfl⟩ (by rw [List.take_zero, List.append_nil]; exact ht)
  refine ⟨J, b1, b2, ?_⟩
  refine ab_C_of (by decide) rfl (Nat.le_of_ble_eq_true rfl) hT ?_
  exact r_M_tellWord_0 hT hj (Nat.le_refl _) (Nat.le_refl _) b3
theorem z_tellNumber (hT : w.1.stackTraces = false) : ∀ (q a : Nat) (I : Nat → Nat → Int32) {v : Int32} {o : Option Nat} {t : List Nat}, a < 1000 → a < 10 ^ (q + 1) → mS I v o t → t.length + 3 < 1000 → ∃ J, mtf J I ∧ mS J v o (t ++ dgs a) ∧ ab_U w (d + (q + 1)) mt_M_tellNumber [.ref mx, .int (nI a)] I L n nc ns J := by
  intro q
  induction q with
  | zero =>
    intro a I v o t ha h1 ht hl
    have h9 : a ≤ 9 := by
      have : a < 10 := h1
      omega
    obtain ⟨o1, o2, o3, o4, o5⟩ := dg_ops a ha
    rw [(dgs_rec a ha).2 h9]
    refine ⟨_, ps_mtf, ps_mS (s := 48 + a % 10) ht (by omega), ?_⟩
    refine ab_C_of (by decide) rfl (Nat.le_of_ble_eq_true rfl) hT ?_
    refine r_M_tellNumber_0 hT _ (Nat.le_refl _) (Nat.le_refl _) ?_
    rw [o3]
    refine bb_t ((nI_leI (b := 9) (by omega) (by omega)).mpr h9) ⟨fun hb => ?_, fun hb => ?_⟩
    · rw [ps, if_pos hb]
    · rw [ps, if_neg hb]
  | succ q ih =>
    intro a I v o t ha h1 ht hl
    obtain ⟨o1, o2, o3, o4, o5⟩ := dg_ops a ha
    by_cases h9 : a ≤ 9
    · rw [(dgs_rec a ha).2 h9]
      refine ⟨_, ps_mtf, ps_mS (s := 48 + a % 10) ht (by omega), ?_⟩
      refine ab_C_of (by decide) rfl (Nat.le_of_ble_eq_true rfl) hT ?_
      refine r_M_tellNumber_0 hT _ (Nat.le_refl _) (Nat.le_refl _) ?_
      rw [o3]
      refine bb_t ((nI_leI (b := 9) (by omega) (by omega)).mpr h9) ⟨fun hb => ?_, fun hb => ?_⟩
      · rw [ps, if_pos hb]
      · rw [ps, if_neg hb]
    · have hq : a / 10 < 10 ^ (q + 1) := by
        rw [Nat.pow_succ] at h1
        exact Nat.div_lt_of_lt_mul (by omega)
      obtain ⟨K, k1, k2, k3⟩ := ih (a / 10) I (by omega) hq ht hl
      have hd := (dgs_len (a / 10) (by omega)).1
      rw [(dgs_rec a ha).1 (by omega), ← List.append_assoc]
      refine ⟨_, mtf_trans ps_mtf k1, ps_mS (s := 48 + a % 10) k2 (by rw [List.length_append]; omega), ?_⟩
      refine ab_C_of (by decide) rfl (Nat.le_of_ble_eq_true rfl) hT ?_
      refine r_M_tellNumber_0 hT _ (Nat.le_refl _) (Nat.le_refl _) ?_
      rw [o3, o1]
      refine bb_f (fun h => h9 ((nI_leI (b := 9) (by omega) (by omega)).mp h)) ⟨K, k3, fun hb => ?_, fun hb => ?_⟩
      · rw [ps, if_pos hb]
      · rw [ps, if_neg hb]
theorem mC_mtf {J : Nat → Nat → Int32} (h : mtf J I) (g : mC I S N sd e1 e2 pr fm l) : mC J S N sd e1 e2 pr fm l := by
  have e1' : J mx_now = I mx_now := h.1 _ (by decide)
  have e2' : J mx 2 = I mx 2 := h.2 2 (by omega) (by omega)
  unfold mC nm_pre at *
  rw [e1', e2']; exact g
theorem z_tellAll (hT : w.1.stackTraces = false) (hm : mC I S N sd e1 e2 pr fm l) {v : Int32} {o : Option Nat} (h37 : I mx 37 = v) (h39 : I mx 39 = -1) (hv : ∀ k, k < 1000 → (nI k = v ↔ o = some k)) : ∃ J, mtf J I ∧ mS J v o (tlB (tlA S e1 e2 pr fm N) sd N) ∧ ab_U w (d + 5) mt_M_tellAll [.ref mx] I L n nc ns J := by
  have p3 := hm.1.2.2.1
  have p4 := hm.1.2.2.2.1
  have bnd : ∀ k, k < N → e1 k < 10 ∧ e2 k < 10 ∧ pr k ≤ 999 ∧ fm k < 4 := fun k hk => by
    obtain ⟨q1, q2, q3, q4, q5, q6⟩ := hm.1.2.2.2.2.2 k hk
    exact ⟨by omega, by omega, q6, (hm.2.2.2.2 k hk).2.1⟩
  have lenA : ∀ i, i ≤ N → (tlA S e1 e2 pr fm i).length ≤ 9 + 16 * i := fun i hi => tlA_len p3 i (fun k hk => bnd k (by omega))
  have lenN := lenA N (Nat.le_refl _)
  have lenB : ∀ i, i ≤ N → (tlB (tlA S e1 e2 pr fm N) sd i).length ≤ 9 + 16 * N + 10 * i := fun i hi => by
    have := tlB_len (sd := sd) (t := tlA S e1 e2 pr fm N) i (by omega)
    omega
  have w4 : (wdS 4).length = 6 := rfl
  have w7 : (wdS 7).length = 7 := rfl
  have tn : ∀ (a : Nat) (K : Nat → Nat → Int32) {t : List Nat}, a < 1000 → mS K v o t → t.length + 3 < 1000 → ∃ J, mtf J K ∧ mS J v o (t ++ dgs a) ∧ ab_U w (d + 4) mt_M_tellNumber [.ref mx, .int (nI a)] K L n nc ns J := fun a K t ha ht hl => z_tellNumber (d := d) (w := w) (n := n) (nc := nc) (ns := ns) (L := L) hT 3 a K ha (by omega) ht hl
  have last : ∀ m i (K : Nat → Nat → Int32), i + m = N → mtf K I → mS K v o (tlB (tlA S e1 e2 pr fm N) sd i) → ∃ J, mtf J I ∧ mS J v o (tlB (tlA S e1 e2 pr fm N) sd N) ∧ ab_E w ((d + 4) + 1) mt_M_tellAll 122 [.ref mx, .int (nI i)] [] (K, L, ab_RR, n, nc, ns) (.inl none, (J, L, ab_RR, n, nc, ns)) := by
    intro m
    induction m with
    | zero =>
      intro i K hi h1 h2
      have e : i = N := by omega
      subst e
      refine ⟨K, h1, h2, ?_⟩
      have k1 := (mC_mtf h1 hm).1.2.1
      refine r_M_tellAll_122 hT _ (Nat.le_refl _) (Nat.le_refl _) ?_
      exact bb_t (by rw [k1]; exact nI_le (Nat.le_refl _) (by omega)) rfl
    | succ m ih =>
      intro i K hi h1 h2
      have hmK := mC_mtf h1 hm
      have k1 := hmK.1.2.1
      have ks := hmK.2.2.1 i (by omega)
      by_cases hs : sd i = true
      · obtain ⟨J, b1, b2, b3⟩ := ih (i + 1) K (by omega) h1 (by rw [tlB, if_pos hs]; exact h2)
        refine ⟨J, b1, b2, ?_⟩
        refine r_M_tellAll_122 hT _ (Nat.le_refl _) (Nat.le_refl _) ?_
        refine bb_f (by rw [k1]; exact nI_ge (by omega) (by omega)) ?_
        rw [nl_bit (K mx_now 1) (show i < 32 by omega), ks, nI_1]
        exact bb_t hs b3
      · have l0 := lenB i (by omega)
        have di := (dgs_len i (by omega)).2.1 (by omega)
        obtain ⟨K1, a1, a2, a3⟩ := z_tellWord (d := d) (j := 7) (w := w) (n := n) (nc := nc) (ns := ns) (L := L) hT (by omega) h2 (by omega)
        obtain ⟨K2, c1, c2, c3⟩ := tn i K1 (by omega) a2 (by rw [List.length_append, w7]; omega)
        have c4 := ps_mS (s := 59) c2 (by rw [List.length_append, List.length_append, w7]; omega)
        obtain ⟨J, b1, b2, b3⟩ := ih (i + 1) (ps K2 59) (by omega) (mtf_trans ps_mtf (mtf_trans c1 (mtf_trans a1 h1))) (by
          rw [tlB, if_neg hs, ← List.append_assoc, ← List.append_assoc]; exact c4)
        refine ⟨J, b1, b2, ?_⟩
        refine r_M_tellAll_122 hT _ (Nat.le_refl _) (Nat.le_refl _) ?_
        refine bb_f (by rw [k1]; exact nI_ge (by omega) (by omega)) ?_
        rw [nl_bit (K mx_now 1) (show i < 32 by omega), ks, nI_1]
        refine bb_f hs ⟨K1, a3, K2, c3, fun hb => ?_, fun hb => ?_⟩
        · rw [ps, if_pos hb] at b3; exact b3
        · rw [ps, if_neg hb] at b3; exact b3
  have first : ∀ m i (K : Nat → Nat → Int32), i + m = N → mtf K I → mS K v o (tlA S e1 e2 pr fm i) → ∃ J, mtf J I ∧ mS J v o (tlB (tlA S e1 e2 pr fm N) sd N) ∧ ab_E w ((d + 4) + 1) mt_M_tellAll 28 [.ref mx, .int (nI i)] [] (K, L, ab_RR, n, nc, ns) (.inl none, (J, L, ab_RR, n, nc, ns)) := by
    intro m
    induction m with
    | zero =>
      intro i K hi h1 h2
      have e : i = N := by omega
      subst e
      obtain ⟨J, b1, b2, b3⟩ := last i 0 K (by omega) h1 h2
      refine ⟨J, b1, b2, ?_⟩
      have k1 := (mC_mtf h1 hm).1.2.1
      refine r_M_tellAll_28 hT _ (Nat.le_refl _) (Nat.le_refl _) ?_
      exact bb_t (by rw [k1]; exact nI_le (Nat.le_refl _) (by omega)) b3
    | succ m ih =>
      intro i K hi h1 h2
      obtain ⟨g1, g2, g3, g4⟩ := bnd i (by omega)
      have l0 := lenA i (by omega)
      have y1 := (dgs_len (e1 i) (by omega)).2.2 (by omega)
      have y2 := (dgs_len (e2 i) (by omega)).2.2 (by omega)
      have y3 := (dgs_len (pr i) (by omega)).1
      have y4 := (dgs_len (fm i) (by omega)).2.2 (by omega)
      have k1 := (mC_mtf h1 hm).1.2.1
      have v1' : ∀ {X : Nat → Nat → Int32} {q : Nat}, q ≤ 75 → X mx_now (nI q + nI i).toNatClampNeg = X mx_now (q + i) := fun hq => by rw [nI_add, nI_clamp (by omega)]
      obtain ⟨K1, a1, b1, c1⟩ := z_tellWord (d := d) (j := 4) (w := w) (n := n) (nc := nc) (ns := ns) (L := L) hT (by omega) h2 (by omega)
      have f1 := mtf_trans a1 h1
      have r1 : K1 mx_now (3 + nI i).toNatClampNeg = nI (e1 i) := (v1' (q := 3) (by omega)).trans ((mC_mtf f1 hm).1.2.2.2.2.2 i (by omega)).1
      obtain ⟨K2, a2, b2, c2⟩ := tn (e1 i) K1 (by omega) b1 (by rw [List.length_append, w4]; omega)
      have b3 := ps_mS (s := 32) b2 (by rw [List.length_append, List.length_append, w4]; omega)
      have f3 := mtf_trans (ps_mtf (s := nI 32)) (mtf_trans a2 f1)
      have r2 : K2 mx_now (27 + nI i).toNatClampNeg = nI (e2 i) := (v1' (q := 27) (by omega)).trans ((mC_mtf (mtf_trans a2 f1) hm).1.2.2.2.2.2 i (by omega)).2.1
      have s32 : ([32] : List Nat).length = 1 := rfl
      obtain ⟨K4, a4, b4, c4⟩ := tn (e2 i) (ps K2 (nI 32)) (by omega) b3 (by rw [List.length_append, List.length_append, List.length_append, w4, s32]; omega)
      have b5 := ps_mS (s := 32) b4 (by rw [List.length_append, List.length_append, List.length_append, List.length_append, w4, s32]; omega)
      have f4 := mtf_trans a4 f3
      have r3 : K4 mx_now (51 + nI i).toNatClampNeg = nI (pr i) := (v1' (q := 51) (by omega)).trans ((mC_mtf f4 hm).1.2.2.2.2.2 i (by omega)).2.2.1
      obtain ⟨K6, a6, b6, c6⟩ := tn (pr i) (ps K4 (nI 32)) (by omega) b5 (by rw [List.length_append, List.length_append, List.length_append, List.length_append, List.length_append, w4, s32]; omega)
      have b7 := ps_mS (s := 32) b6 (by rw [List.length_append, List.length_append, List.length_append, List.length_append, List.length_append, List.length_append, w4, s32]; omega)
      have f6 := mtf_trans a6 (mtf_trans (ps_mtf (s := nI 32)) f4)
      have r4 : K6 mx_now (75 + nI i).toNatClampNeg = nI (fm i) := (v1' (q := 75) (by omega)).trans ((mC_mtf f6 hm).2.2.2.2 i (by omega)).1
      obtain ⟨K8, a8, b8, c8⟩ := tn (fm i) (ps K6 (nI 32)) (by omega) b7 (by rw [List.length_append, List.length_append, List.length_append, List.length_append, List.length_append, List.length_append, List.length_append, w4, s32]; omega)
      have b9 := ps_mS (s := 59) b8 (by rw [List.length_append, List.length_append, List.length_append, List.length_append, List.length_append, List.length_append, List.length_append, List.length_append, w4, s32]; omega)
      have f9 := mtf_trans (ps_mtf (s := nI 59)) (mtf_trans a8 (mtf_trans (ps_mtf (s := nI 32)) f6))
      obtain ⟨J, z1, z2, z3⟩ := ih (i + 1) (ps K8 (nI 59)) (by omega) f9 (by
        rw [tlA]; unfold tlC
        rw [← List.append_assoc, ← List.append_assoc, ← List.append_assoc, ← List.append_assoc, ← List.append_assoc, ← List.append_assoc, ← List.append_assoc, ← List.append_assoc]
        exact b9)
      refine ⟨J, z1, z2, ?_⟩
      rw [← r1] at c2
      rw [← r2] at c4
      rw [← r3] at c6
      rw [← r4] at c8
      have n1 : vp_in (3 + nI i) 399 := by rw [nl_add2]; exact vp_in_nI (by omega) (by omega)
      have n2 : vp_in (27 + nI i) 399 := by rw [nl_add2]; exact vp_in_nI (by omega) (by omega)
      have n3 : vp_in (51 + nI i) 399 := by rw [nl_add2]; exact vp_in_nI (by omega) (by omega)
      have n4 : vp_in (75 + nI i) 399 := by rw [nl_add2]; exact vp_in_nI (by omega) (by omega)
      have ei : nI i + 1 = nI (i + 1) := nI_1 i
      rw [← ei] at z3
      have zt : K8 mx 38 = K8 mx 37 → _ := fun hb => pe_t (P := fun X => ab_E w ((d + 4) + 1) mt_M_tellAll 28 [.ref mx, .int (nI i + 1)] [] (X, L, ab_RR, n, nc, ns) (.inl none, (J, L, ab_RR, n, nc, ns))) hb z3
      have zf : ¬ K8 mx 38 = K8 mx 37 → _ := fun hb => pe_f (P := fun X => ab_E w ((d + 4) + 1) mt_M_tellAll 28 [.ref mx, .int (nI i + 1)] [] (X, L, ab_RR, n, nc, ns) (.inl none, (J, L, ab_RR, n, nc, ns))) hb z3
      refine r_M_tellAll_28 hT _ (Nat.le_refl _) (Nat.le_refl _) ?_
      exact bb_f (by rw [k1]; exact nI_ge (by omega) (by omega)) ⟨K1, c1, n1, K2, c2, fun hb => ⟨n2, K4, ps_t hb c4, fun hb => ⟨n3, K6, ps_t hb c6, fun hb => ⟨n4, K8, ps_t hb c8, zt, zf⟩, fun hb => ⟨n4, K8, ps_f hb c8, zt, zf⟩⟩, fun hb => ⟨n3, K6, ps_f hb c6, fun hb => ⟨n4, K8, ps_t hb c8, zt, zf⟩, fun hb => ⟨n4, K8, ps_f hb c8, zt, zf⟩⟩⟩, fun hb => ⟨n2, K4, ps_f hb c4, fun hb => ⟨n3, K6, ps_t hb c6, fun hb => ⟨n4, K8, ps_t hb c8, zt, zf⟩, fun hb => ⟨n4, K8, ps_f hb c8, zt, zf⟩⟩, fun hb => ⟨n3, K6, ps_f hb c6, fun hb => ⟨n4, K8, ps_t hb c8, zt, zf⟩, fun hb => ⟨n4, K8, ps_f hb c8, zt, zf⟩⟩⟩⟩
  have t0 : mS (ab_up I mx 38 0) v o [] := ⟨by rw [ab_up_i, pk_us]; rfl, by rw [ab_up_i, pk_un (by omega)]; exact h37, by
    rw [ab_up_i, pk_un (by omega), h39]
    cases o with
    | none => rfl
    | some i => unfold pkt; simp, hv⟩
  have f0 : mtf (ab_up I mx 38 0) I := ⟨fun c hc => by rw [ab_up_o hc], fun k h1 h2 => by rw [ab_up_i, pk_un h1]⟩
  have ys := (dgs_len S (by omega)).2.1 (by omega)
  obtain ⟨K1, a1, b1, c1⟩ := z_tellWord (d := d) (j := 3) (w := w) (n := n) (nc := nc) (ns := ns) (L := L) hT (by omega) t0 (by show 0 + 7 < 1000; omega)
  have f1 := mtf_trans a1 f0
  have r1 := (mC_mtf f1 hm).1.1
  obtain ⟨K2, a2, b2, c2⟩ := tn S K1 (by omega) b1 (by show 6 + 3 < 1000; omega)
  have b3 := ps_mS (s := 59) b2 (by rw [List.length_append]; show 6 + _ < 1000; omega)
  obtain ⟨J, z1, z2, z3⟩ := first N 0 (ps K2 59) (by omega) (mtf_trans ps_mtf (mtf_trans a2 f1)) b3
  refine ⟨J, z1, z2, ?_⟩
  rw [← r1] at c2
  refine ab_C_of (by decide) rfl (Nat.le_of_ble_eq_true rfl) hT ?_
  refine r_M_tellAll_0 hT (Nat.le_refl _) (Nat.le_refl _) ?_
  refine ⟨K1, c1, K2, c2, fun hb => ?_, fun hb => ?_⟩
  · rw [ps, if_pos hb] at z3; exact z3
  · rw [ps, if_neg hb] at z3; exact z3
theorem j_told (hT : w.1.stackTraces = false) (hR : RQ I S N sd e1 e2 pr fm l) (v : Int32) : (∃ J, qOk w (d + 16) mt_K_told mt_M_told [.int v] I L n nc ns J) ∨ ∃ J, qNo w (d + 16) mt_K_told mt_M_told [.int v] I L n nc ns J "java/util/NoSuchElementException" 1 := by
  obtain ⟨hq, hm, -⟩ := hR
  have p3 := hm.1.2.2.1
  have p4 := hm.1.2.2.2.1
  obtain ⟨J, a1, a2, a3⟩ := k_tell (d := d + 10) (w := w) (n := n) (nc := nc) (ns := ns) (L := L) hT hq.1
  have ck : kfr J I := fun c hc => a1 c (fun e => hc (by rw [e]; unfold kscr; decide)) (fun e => hc (by rw [e]; unfold kscr; decide))
  have lenN : (tlA S e1 e2 pr fm N).length ≤ 9 + 16 * N := tlA_len p3 N (fun k hk => by
    obtain ⟨q1, q2, q3, q4, q5, q6⟩ := hm.1.2.2.2.2.2 k hk
    exact ⟨by omega, by omega, q6, (hm.2.2.2.2 k hk).2.1⟩)
  have lenB := tlB_len (sd := sd) (t := tlA S e1 e2 pr fm N) N p4
  have sgn := sg_tl (sd := sd) p3 p4 (fun k hk => by
    obtain ⟨q1, q2, q3, q4, q5, q6⟩ := hm.1.2.2.2.2.2 k hk
    exact ⟨by omega, by omega, q6, (hm.2.2.2.2 k hk).2.1⟩ : ∀ k, k < N → e1 k < 10 ∧ e2 k < 10 ∧ pr k ≤ 999 ∧ fm k < 4)
  generalize hX : tlB (tlA S e1 e2 pr fm N) sd N = X at *
  have hlen : X.length < 700 := by omega
  have start : mgr (ab_up (ab_up (ab_up J mx 1 0) mx 37 v) mx 39 (-1)) J := ⟨fun c hc => by rw [ab_up_o (fun e => hc (Or.inl e)), ab_up_o (fun e => hc (Or.inl e)), ab_up_o (fun e => hc (Or.inl e))], fun k hk h1 => by rw [ab_up_i, pk_un (by unfold mkf at hk; omega), ab_up_i, pk_un (by unfold mkf at hk; omega), ab_up_i, pk_un h1]⟩
  have hm1 := mC_gr start (mC_kfr ck hm)
  have model : ∀ (o : Option Nat) (L : Nat → Nat → Int64) (n nc ns : Nat), (∀ k, k < 1000 → (nI k = v ↔ o = some k)) → ∃ K, mgr K J ∧ K mx 1 = 0 ∧ K mx 38 = nI X.length ∧ K mx 39 = pkt o X ∧ ab_U w (d + 15) mt_M_tellAll [.ref mx] (ab_up (ab_up (ab_up J mx 1 0) mx 37 v) mx 39 (-1)) L n nc ns K := fun o L n nc ns ho => by
    obtain ⟨K, k1, k2, k3⟩ := z_tellAll (d := d + 10) (w := w) (n := n) (nc := nc) (ns := ns) (L := L) hT hm1 (v := v) (o := o) (by rw [ab_up_i, pk_un (by omega), ab_up_i, pk_us]) (by rw [ab_up_i, pk_us]) ho
    rw [hX] at k2
    refine ⟨K, mgr_trans ⟨fun c hc => k1.1 c (fun e => hc (Or.inl e)), fun k hk _ => k1.2 k (by unfold mkf at hk; omega) (by unfold mkf at hk; omega)⟩ start, ?_, k2.1, k2.2.2.1, k3⟩
    rw [k1.2 1 (by omega) (by omega), ab_up_i, pk_un (by omega), ab_up_i, pk_un (by omega), ab_up_i, pk_us]
  by_cases hv : v = -1
  · left
    refine ⟨J, ck, nI X.length, ?_, fun L n nc ns => ?_⟩
    · refine ab_C_of (by decide) rfl (Nat.le_of_ble_eq_true rfl) hT ?_
      refine r_K_told_0 hT _ (by omega) (Nat.le_refl _) (Nat.le_refl _) ?_
      exact ⟨J, a3, bb_t' hv (by rw [a2.1])⟩
    · obtain ⟨K, k1, k2, k3, k4, k5⟩ := model none L n nc ns (fun k hk => ⟨fun h => absurd (h.trans hv) (nI_m1 (by omega)), fun h => by cases h⟩)
      refine ⟨K, k1, k2, ?_⟩
      refine ab_C_of (by decide) rfl (Nat.le_of_ble_eq_true rfl) hT ?_
      refine r_M_told_0 hT _ (Nat.le_refl _) (Nat.le_refl _) ?_
      exact ⟨K, k5, bb_t' hv (by rw [k3])⟩
  · rcases v_rng v X.length (by omega) with ⟨i, hi, e⟩ | hbad
    · subst e
      obtain ⟨u1, u2, u3, u4⟩ := v_rg1 hi (by omega)
      left
      refine ⟨J, ck, nI (X.getD i 0), ?_, fun L n nc ns => ?_⟩
      · refine ab_C_of (by decide) rfl (Nat.le_of_ble_eq_true rfl) hT ?_
        refine r_K_told_0 hT _ (by omega) (Nat.le_refl _) (Nat.le_refl _) ?_
        refine ⟨J, a3, bb_f' hv (bb_f u1 ?_)⟩
        rw [a2.1, nI_clamp (by omega), a2.2 i hi]
        exact bb_t u4 ⟨vp_in_nI (by omega) (by omega), rfl⟩
      · obtain ⟨K, k1, k2, k3, k4, k5⟩ := model (some i) L n nc ns (fun k hk => by
          rw [nI_eq (by omega) (by omega)]
          exact ⟨fun h => by rw [h], fun h => (Option.some.inj h).symm⟩)
        have k4 : K mx 39 = nI (X.getD i 0) := by
          rw [k4]; unfold pkt; simp only []; rw [if_pos hi]
        refine ⟨K, k1, k2, ?_⟩
        refine ab_C_of (by decide) rfl (Nat.le_of_ble_eq_true rfl) hT ?_
        refine r_M_told_0 hT _ (Nat.le_refl _) (Nat.le_refl _) ?_
        refine ⟨K, k5, bb_f' hv (bb_f' ?_ (by rw [k4]))⟩
        rw [k4]
        have hs : X.getD i 0 < 128 := by
          rw [List.getD_eq_getElem?_getD, List.getElem?_eq_getElem hi]
          exact sgn _ (List.getElem_mem hi)
        exact nI_m1 (by omega)
    · right
      refine ⟨J, ck, ?_, fun L n nc ns => ?_⟩
      · refine ab_C_of (by decide) rfl (Nat.le_of_ble_eq_true rfl) hT ?_
        refine r_K_told_0 hT _ (by omega) (Nat.le_add_right _ _) (Nat.le_add_right _ _) ?_
        refine ⟨J, a3, bb_f' hv ?_⟩
        rcases hbad with h | ⟨h1, h2, h3, h4⟩
        · exact bb_t h rfl
        · exact bb_f h1 (bb_f (by rw [a2.1]; exact h4) rfl)
      · have ho : ∃ o : Option Nat, (∀ k, k < 1000 → (nI k = v ↔ o = some k)) ∧ pkt o X = -1 := by
          by_cases g : ∃ k, k < 1000 ∧ nI k = v
          · obtain ⟨k, g1, g2⟩ := g
            refine ⟨some k, fun j hj => ?_, ?_⟩
            · rw [← g2, nI_eq (by omega) (by omega)]
              exact ⟨fun h => by rw [h], fun h => (Option.some.inj h).symm⟩
            · unfold pkt
              simp only []
              refine if_neg (fun hk => ?_)
              rcases hbad with h | ⟨h1, h2, h3, h4⟩
              · rw [← g2] at h; exact nI_pos (by omega) h
              · rw [← g2] at h4; exact h4 ((nI_ltI (by omega) (by omega)).mpr hk)
          · exact ⟨none, fun k hk => ⟨fun h => absurd ⟨k, hk, h⟩ g, fun h => by cases h⟩, rfl⟩
        obtain ⟨o, o1, o2⟩ := ho
        obtain ⟨K, k1, k2, k3, k4, k5⟩ := model o L n nc ns o1
        refine ⟨0, ab_up K mx 1 1, mgr_trans mgr_c k1, by rw [ab_up_i, pk_us], ?_⟩
        refine ab_C_of (by decide) rfl (Nat.le_of_ble_eq_true rfl) hT ?_
        refine r_M_told_0 hT _ (Nat.le_refl _) (Nat.le_refl _) ?_
        exact ⟨K, k5, bb_f' hv (bb_t' (k4.trans o2) rfl)⟩
end MTL
