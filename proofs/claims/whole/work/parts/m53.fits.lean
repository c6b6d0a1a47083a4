/-! THE TWO SIDE BY SIDE: fits, look; NOTES -/
/-- the notes, in bits and in rows -/
def nR (I : Nat → Nat → Int32) (m : Nat) (cb : Nat → Nat) (ib : Nat → Bool) : Prop := I mx 43 = nI m ∧ m ≤ 8 ∧ (∀ i, i < m → I mx_notedCable i = nI (cb i) ∧ cb i < 24 ∧ I mx_notedIn i = (if ib i = true then 1 else 0)) ∧ (∀ k, k < 32 → (bt (I kx_now 4) k = true ↔ ∃ i, i < m ∧ cb i = k ∧ ib i = true)) ∧ (∀ k, k < 32 → (bt (I kx_now 5) k = true ↔ ∃ i, i < m ∧ cb i = k ∧ ib i = false))
section JFT
variable {w : ab_Wd} {d n nc ns : Nat} {I : Nat → Nat → Int32} {L : Nat → Nat → Int64}
variable {S N : Nat} {sd : Nat → Bool} {e1 e2 pr fm : Nat → Nat} {l : List Nat}
theorem nt_iff {m : Nat} {cb : Nat → Nat} {ib : Nat → Bool} (h : nR I m cb ib) (r : Int32) : ntB I m r = true ↔ (r &&& I kx_now 4 = I kx_now 4 ∧ r &&& I kx_now 5 = 0) := by
  obtain ⟨h1, h2, h3, h4, h5⟩ := h
  have z : ∀ j, j < 32 → bt (0 : Int32) j = false := fun j hj => by
    have : ∀ j : Fin 32, bt (0 : Int32) j.1 = false := by decide
    exact this ⟨j, hj⟩
  have one : ∀ i, i < m → (decide (((r >>> (I mx_notedCable i &&& 31)) &&& 1) = I mx_notedIn i) = true ↔ bt r (cb i) = ib i) := fun i hi => by
    obtain ⟨a1, a2, a3⟩ := h3 i hi
    rw [a1, a3, ab_bit r (by omega), decide_eq_true_iff]
    cases bt r (cb i) <;> cases ib i <;> decide
  have key : ntB I m r = true ↔ ∀ i, i < m → bt r (cb i) = ib i := by
    unfold ntB
    rw [List.all_eq_true]
    constructor
    · intro h i hi
      exact (one i hi).mp (h i (List.mem_range.mpr hi))
    · intro h i hi
      exact (one i (List.mem_range.mp hi)).mpr (h i (List.mem_range.mp hi))
  rw [key]
  constructor
  · intro h
    constructor
    · refine b_ext fun k hk => ?_
      rw [b_and]
      cases hb : bt (I kx_now 4) k with
      | false => rw [Bool.and_false]
      | true =>
        obtain ⟨i, i1, i2, i3⟩ := (h4 k hk).mp hb
        rw [← i2, h i i1, i3]; rfl
    · refine b_ext fun k hk => ?_
      rw [b_and, z k hk]
      cases hb : bt (I kx_now 5) k with
      | false => rw [Bool.and_false]
      | true =>
        obtain ⟨i, i1, i2, i3⟩ := (h5 k hk).mp hb
        rw [← i2, h i i1, i3]; rfl
  · rintro ⟨g1, g2⟩ i hi
    have hc := (h3 i hi).2.1
    cases hb : ib i with
    | true =>
      have := (h4 (cb i) (by omega)).mpr ⟨i, hi, rfl, hb⟩
      rw [← g1, b_and, Bool.and_eq_true] at this
      exact this.1
    | false =>
      have t := (h5 (cb i) (by omega)).mpr ⟨i, hi, rfl, hb⟩
      have := congrArg (fun x => bt x (cb i)) g2
      simp only [b_and, t, z (cb i) (show cb i < 32 by omega), Bool.and_true] at this
      exact this
/-- the nets by the price of one -/
theorem wi_in (hq : kQ I S N sd e1 e2 pr fm l) {k v j : Nat} {o : Option Nat} (hk : k < N) (hs : sd k = true) (ho : pq e1 e2 pr N sd k o) (hv : v ≤ brN pr k o) : wiB (net e1 e2 sd l) k o j = true ↔ inN e1 e2 (fun j => if j = k then v else pr j) N sd j := by
  have hB := brN_le hq ho
  have hpp : ∀ q, q < N → 1 ≤ pr q := fun q h => (kq_hp hq.1 q h).1
  unfold wiB
  by_cases e : j = k
  · subst e
    simp only [decide_true, Bool.true_or, true_iff]
    exact (swp_v hk hs ho (by omega) hpp).mpr hv
  · have h1 := swp_j (v := v) hk hs ho (by omega) hpp e
    have h2 := swp_j (v := pr k) hk hs ho (kq_hp hq.1 k hk).2 hpp e
    rw [upd_self, ← kq_mem hq] at h2
    rw [h1, decide_eq_false e, Bool.false_or, Bool.and_eq_true, decide_eq_true_iff, h2, Bool.not_eq_true', decide_eq_false_iff_not]
    exact ⟨fun h => ⟨h.1.1, fun _ => h.2⟩, fun h => ⟨⟨h.1, fun _ => h.2 hv⟩, h.2 hv⟩⟩
theorem wo_in (hq : kQ I S N sd e1 e2 pr fm l) {k v j : Nat} {o : Option Nat} (hk : k < N) (hs : sd k = true) (ho : pq e1 e2 pr N sd k o) (hv : brN pr k o < v) (hv9 : v ≤ 999) : woB (net e1 e2 sd l) k o j = true ↔ inN e1 e2 (fun j => if j = k then v else pr j) N sd j := by
  have hpp : ∀ q, q < N → 1 ≤ pr q := fun q h => (kq_hp hq.1 q h).1
  unfold woB
  by_cases e : j = k
  · subst e
    simp only [decide_true, Bool.not_true, Bool.false_and, Bool.false_eq_true, false_iff]
    intro h
    have := (swp_v hk hs ho hv9 hpp).mp h
    omega
  · have h1 := swp_j (v := v) hk hs ho hv9 hpp e
    have h2 := swp_j (v := pr k) hk hs ho (kq_hp hq.1 k hk).2 hpp e
    rw [upd_self, ← kq_mem hq] at h2
    rw [h1, decide_eq_false e, Bool.not_false, Bool.true_and, Bool.or_eq_true, decide_eq_true_iff, decide_eq_true_iff, h2]
    constructor
    · rintro (h | h)
      · exact ⟨h.1, fun g => by omega⟩
      · subst h
        have hb : bn e1 e2 pr N sd k j := ho
        exact ⟨⟨hb.1, ⟨hb.2.1, hb.2.2.1⟩, hb.2.2.2.1⟩, fun g => by omega⟩
    · rintro ⟨h, -⟩
      by_cases g : o = some j
      · exact Or.inr g
      · exact Or.inl ⟨h, fun _ => g⟩
theorem max_br {B : Nat} (hB : B ≤ 999) : ab_max32 (brV B) 0 = nI B := by
  unfold ab_max32 brV
  by_cases h : B = 0
  · subst h; decide
  · rw [if_neg h, if_neg (nI_pos (by omega))]
theorem br_le {B : Nat} (hB : B ≤ 999) : (brV B ≤ 0 ↔ B = 0) ∧ (999 ≤ brV B ↔ B = 999) := by
  unfold brV
  by_cases h : B = 0
  · subst h; decide
  · rw [if_neg h, nl_le1 (by omega) (by omega), nl_le2 (by omega) (by omega)]
    constructor
    · omega
    · constructor
      · intro g; have : 999 ≤ B := g; omega
      · intro g; show 999 ≤ B; omega
theorem k_needSound (hT : w.1.stackTraces = false) {k : Nat} (hk : k < 32) (hsk : bt (I kx_now_cables 2) k = sd k) : (sd k = true → ab_C w (d + 8) mt_K_needSound [.ref kx, .int (nI k)] (I, L, ab_RR, n, nc, ns) (.inl none, (I, L, ab_RR, n, nc, ns))) ∧ (¬ sd k = true → ab_C w (d + 8) mt_K_needSound [.ref kx, .int (nI k)] (I, L, ab_RR, n, nc, ns) (.inr "java/lang/IllegalStateException", (I, L, ab_RR, n, nc + 1, ns + 6))) := by
  constructor
  · intro h
    refine ab_C_of (by decide) rfl (Nat.le_of_ble_eq_true rfl) hT ?_
    refine r_K_needSound_0 hT _ (by omega) (Nat.le_refl _) (Nat.le_refl _) ?_
    rw [nl_bit (I kx_now_cables 2) hk, hsk]
    exact bb_t h rfl
  · intro h
    refine ab_C_of (by decide) rfl (Nat.le_of_ble_eq_true rfl) hT ?_
    refine r_K_needSound_0 hT _ (by omega) (Nat.le_add_right _ _) (Nat.le_add_right _ _) ?_
    rw [nl_bit (I kx_now_cables 2) hk, hsk]
    exact bb_f h rfl
theorem j_fits (hT : w.1.stackTraces = false) (hR : RQ I S N sd e1 e2 pr fm l) {m : Nat} {cb : Nat → Nat} {ib : Nat → Bool} (hN : nR I m cb ib) (v u : Int32) : qOk w (d + 16) mt_K_fits mt_M_fits [.int v, .int u] I L n nc ns I ∨ qNo w (d + 16) mt_K_fits mt_M_fits [.int v, .int u] I L n nc ns I "java/util/NoSuchElementException" 1 ∨ qNo w (d + 16) mt_K_fits mt_M_fits [.int v, .int u] I L n nc ns I "java/lang/IllegalStateException" 2 := by
  obtain ⟨hq, hm, -⟩ := hR
  have hm0 : mC (ab_up I mx 1 0) S N sd e1 e2 pr fm l := mC_gr mgr_c hm
  have p2 := hq.1.1.2.1
  have p4 := hq.1.1.2.2.2.1
  have z1 : I mx_now 0 = nI N := hm.1.2.1
  rcases k_needCable (d := d + 7) (w := w) (n := n) (nc := nc) (ns := ns) (L := L) hT p2 p4 v with ⟨k, hk, e, need⟩ | ⟨hbad, need⟩
  · subst e
    obtain ⟨a1, a2, a3, a4⟩ := v_rg1 hk (by omega)
    have hsk := hq.1.2.2.2.1 k (by omega)
    have hs9 := hm.2.2.1 k (by omega)
    rcases v_cs u 1 (by decide) with ⟨i, hi, e, g1, g2⟩ | ⟨-, hout2⟩
    · have g3 : u ≤ 1 := by
        subst e
        exact (nI_leI (b := 1) (by omega) (by omega)).mpr hi
      subst e
      obtain ⟨ns1, ns2⟩ := k_needSound (d := d + 7) (w := w) (n := n) (nc := nc) (ns := ns) (L := L) hT (show k < 32 by omega) hsk
      by_cases hs : sd k = true
      · left
        obtain ⟨o, o1, o2⟩ := (k_barOf (d := d + 10) (w := w) (n := n) (nc := nc) (ns := ns) (L := L) hT hq hk).1 hs
        obtain ⟨x, ⟨ox, x1, x2⟩, x3⟩ := k_netWith (d := d + 12) (w := w) (n := n) (nc := nc) (ns := ns) (L := L) hT hq hk hs
        obtain ⟨y, ⟨oy, y1, y2⟩, y3⟩ := k_netWithout (d := d + 11) (w := w) (n := n) (nc := nc) (ns := ns) (L := L) hT hq hk hs
        have hpp : ∀ q, q < N → 1 ≤ pr q := fun q h => (kq_hp hq.1 q h).1
        have ex := pq_uq hk hs hpp x1 o1
        have ey := pq_uq hk hs hpp y1 o1
        subst ex
        subst ey
        have hB := brN_le hq o1
        have ip := nt_iff hN x
        have iq := nt_iff hN y
        have model : ∀ (L : Nat → Nat → Int64) (n nc ns : Nat), ∃ J, mfr J (ab_up I mx 1 0) ∧ J mx 46 = nI (ftM (brN pr k oy) 0 (ntB I m x) (ntB I m y)) ∧ J mx 47 = ftL (brN pr k oy) 0 (ntB I m x) (ntB I m y) ∧ ab_U w (d + 15) mt_M_tellFits [.ref mx, .int (nI k)] (ab_up I mx 1 0) L n nc ns J := fun L n nc ns => by
          have en : ∀ r, ntB (ab_up I mx 1 0) m r = ntB I m r := fun r => by
            unfold ntB
            rw [ab_up_o (by decide), ab_up_o (by decide)]
          obtain ⟨J, t1, t2, t3, -, -, t4⟩ := z_tellFits (d := d + 11) (w := w) (n := n) (nc := nc) (ns := ns) (L := L) hT hm0 (x := x) (y := y) (m := m) hk hs o1 hB (by rw [ab_up_i, pk_un (by omega)]; exact hN.1) hN.2.1 (fun v v1 v2 j hj => by rw [x2 j hj]; exact wi_in hq hk hs o1 v2) (fun v v1 v2 j hj => by rw [y2 j hj]; exact wo_in hq hk hs o1 v1 v2)
          rw [en, en] at t2 t3
          exact ⟨J, t1, t2, t3, t4⟩
        generalize brN pr k oy = B at *
        have emax := max_br hB
        have esub : (999 : Int32) - nI B = nI (999 - B) := by rw [show (999 : Int32) = nI 999 from rfl, nI_sub hB]
        refine ⟨kfr_refl, if nI i = 0 then nI (ftM B 0 (ntB I m x) (ntB I m y)) else ftL B 0 (ntB I m x) (ntB I m y), ?_, fun L n nc ns => ?_⟩
        · refine ab_C_of (by decide) rfl (Nat.le_of_ble_eq_true rfl) hT ?_
          refine r_K_fits_0 hT _ _ (by omega) (Nat.le_refl _) (Nat.le_refl _) ?_
          refine Or.inl ⟨need, bb_f g1 (bb_t g3 (Or.inl ⟨ns1 hs, _, o2, x, x3, ?_⟩))⟩
          rw [emax, esub]
          rw [nl_le1 (a := B) (by omega) (by omega), nl_le1 (a := 999 - B) (by omega) (by omega)]
          generalize hp : ntB I m x = p at *
          generalize hqq : ntB I m y = q at *
          by_cases c1 : (x &&& I kx_now 4) = I kx_now 4
          · by_cases c2 : (x &&& I kx_now 5) = 0
            · have e1 : p = true := ip.mpr ⟨c1, c2⟩
              subst e1
              refine bb_t c1 (bb_t c2 ⟨y, y3, ?_⟩)
              by_cases d1 : (y &&& I kx_now 4) = I kx_now 4
              · by_cases d2 : (y &&& I kx_now 5) = 0
                · have e2 : q = true := iq.mpr ⟨d1, d2⟩
                  subst e2
                  refine bb_t d1 (bb_t d2 ⟨fun h => ?_, fun h => ?_⟩)
                  · rw [if_neg h]
                    unfold ftL
                    refine ⟨fun b0 => ⟨fun b1 => ?_, fun b1 => ?_⟩, fun b0 => ?_⟩
                    · exfalso; omega
                    · rw [if_neg (by omega), if_pos ⟨rfl, by omega⟩, nl_add1, show max 0 B = B by omega]
                    · rw [if_pos ⟨rfl, by omega⟩]; rfl
                  · rw [if_pos h, nI_add]
                    unfold ftM
                    simp only [if_true]
                    rw [show B + (999 - B) = (999 - max 0 B) + (B - 0) by omega]
                · have e2 : q = false := by
                    cases q with
                    | false => rfl
                    | true => exact absurd (iq.mp rfl).2 d2
                  subst e2
                  refine bb_t d1 (bb_f d2 ⟨fun h => ?_, fun h => ?_⟩)
                  · rw [if_neg h]
                    unfold ftL
                    refine ⟨fun b0 => ?_, fun b0 => ?_⟩
                    · rw [if_neg (by omega), if_neg (by simp)]
                    · rw [if_pos ⟨rfl, by omega⟩]; rfl
                  · rw [if_pos h]
                    unfold ftM
                    simp [Int32.add_zero]
              · have e2 : q = false := by
                  cases q with
                  | false => rfl
                  | true => exact absurd (iq.mp rfl).1 d1
                subst e2
                refine bb_f d1 ⟨fun h => ?_, fun h => ?_⟩
                · rw [if_neg h]
                  unfold ftL
                  refine ⟨fun b0 => ?_, fun b0 => ?_⟩
                  · rw [if_neg (by omega), if_neg (by simp)]
                  · rw [if_pos ⟨rfl, by omega⟩]; rfl
                · rw [if_pos h]
                  unfold ftM
                  simp [Int32.add_zero]
            · have e1 : p = false := by
                cases p with
                | false => rfl
                | true => exact absurd (ip.mp rfl).2 c2
              subst e1
              refine bb_t c1 (bb_f c2 ⟨y, y3, ?_⟩)
              by_cases d1 : (y &&& I kx_now 4) = I kx_now 4
              · by_cases d2 : (y &&& I kx_now 5) = 0
                · have e2 : q = true := iq.mpr ⟨d1, d2⟩
                  subst e2
                  refine bb_t d1 (bb_t d2 ⟨fun h => ?_, fun h => ?_⟩)
                  · rw [if_neg h]
                    unfold ftL
                    refine ⟨fun b1 => ?_, fun b1 => ?_⟩
                    · rw [if_neg (by simp), if_neg (by omega)]
                    · rw [if_neg (by simp), if_pos ⟨rfl, by omega⟩, nl_add1, show max 0 B = B by omega]
                  · rw [if_pos h]
                    unfold ftM
                    simp [Int32.zero_add]
                · have e2 : q = false := by
                    cases q with
                    | false => rfl
                    | true => exact absurd (iq.mp rfl).2 d2
                  subst e2
                  refine bb_t d1 (bb_f d2 ⟨fun h => ?_, fun h => ?_⟩)
                  · rw [if_neg h]; rfl
                  · rw [if_pos h]; rfl
              · have e2 : q = false := by
                  cases q with
                  | false => rfl
                  | true => exact absurd (iq.mp rfl).1 d1
                subst e2
                refine bb_f d1 ⟨fun h => ?_, fun h => ?_⟩
                · rw [if_neg h]; rfl
                · rw [if_pos h]; rfl
          · have e1 : p = false := by
              cases p with
              | false => rfl
              | true => exact absurd (ip.mp rfl).1 c1
            subst e1
            refine bb_f c1 ⟨y, y3, ?_⟩
            by_cases d1 : (y &&& I kx_now 4) = I kx_now 4
            · by_cases d2 : (y &&& I kx_now 5) = 0
              · have e2 : q = true := iq.mpr ⟨d1, d2⟩
                subst e2
                refine bb_t d1 (bb_t d2 ⟨fun h => ?_, fun h => ?_⟩)
                · rw [if_neg h]
                  unfold ftL
                  refine ⟨fun b1 => ?_, fun b1 => ?_⟩
                  · rw [if_neg (by simp), if_neg (by omega)]
                  · rw [if_neg (by simp), if_pos ⟨rfl, by omega⟩, nl_add1, show max 0 B = B by omega]
                · rw [if_pos h]
                  unfold ftM
                  simp [Int32.zero_add]
              · have e2 : q = false := by
                  cases q with
                  | false => rfl
                  | true => exact absurd (iq.mp rfl).2 d2
                subst e2
                refine bb_t d1 (bb_f d2 ⟨fun h => ?_, fun h => ?_⟩)
                · rw [if_neg h]; rfl
                · rw [if_pos h]; rfl
            · have e2 : q = false := by
                cases q with
                | false => rfl
                | true => exact absurd (iq.mp rfl).1 d1
              subst e2
              refine bb_f d1 ⟨fun h => ?_, fun h => ?_⟩
              · rw [if_neg h]; rfl
              · rw [if_pos h]; rfl
        · obtain ⟨J, t1, t2, t3, t4⟩ := model L n nc ns
          refine ⟨J, (mfr_ok t1).1, (mfr_ok t1).2, ?_⟩
          refine ab_C_of (by decide) rfl (Nat.le_of_ble_eq_true rfl) hT ?_
          refine r_M_fits_0 hT _ _ (Nat.le_refl _) (Nat.le_refl _) ?_
          refine bb_f a1 (bb_f (by rw [z1]; exact a3) (bb_f g1 (bb_f g2 ?_)))
          rw [nl_bit (I mx_now 1) (show k < 32 by omega), hs9]
          refine bb_t hs ⟨J, t4, fun h => ?_, fun h => ?_⟩
          · rw [if_neg h, t3]
          · rw [if_pos h, t2]
      · right; right
        refine ⟨kfr_refl, ?_, fun L n nc ns => ⟨0, _, mgr_x.1, mgr_x.2, ?_⟩⟩
        · refine ab_C_of (by decide) rfl (Nat.le_of_ble_eq_true rfl) hT ?_
          refine r_K_fits_0 hT _ _ (by omega) (Nat.le_add_right _ _) (Nat.le_add_right _ _) ?_
          exact Or.inl ⟨need, bb_f g1 (bb_t g3 (Or.inr ⟨_, ns2 hs, rfl⟩))⟩
        · refine ab_C_of (by decide) rfl (Nat.le_of_ble_eq_true rfl) hT ?_
          refine r_M_fits_0 hT _ _ (Nat.le_refl _) (Nat.le_refl _) ?_
          refine bb_f a1 (bb_f (by rw [z1]; exact a3) (bb_f g1 (bb_f g2 ?_)))
          rw [nl_bit (I mx_now 1) (show k < 32 by omega), hs9]
          exact bb_f hs rfl
    · right; left
      refine ⟨kfr_refl, ?_, fun L n nc ns => ⟨0, _, mgr_x.1, mgr_x.2, ?_⟩⟩
      · refine ab_C_of (by decide) rfl (Nat.le_of_ble_eq_true rfl) hT ?_
        refine r_K_fits_0 hT _ _ (by omega) (Nat.le_add_right _ _) (Nat.le_add_right _ _) ?_
        refine Or.inl ⟨need, ?_⟩
        rcases hout2 with h | ⟨h1, h2⟩
        · exact bb_t h rfl
        · exact bb_f h1 (bb_f (fun h => by
            rw [Int32.lt_iff_toInt_lt] at h2
            rw [Int32.le_iff_toInt_le] at h
            have : (nI 1).toInt = (1 : Int32).toInt := by decide
            omega) rfl)
      · refine ab_C_of (by decide) rfl (Nat.le_of_ble_eq_true rfl) hT ?_
        refine r_M_fits_0 hT _ _ (Nat.le_refl _) (Nat.le_refl _) ?_
        refine bb_f a1 (bb_f (by rw [z1]; exact a3) ?_)
        rcases hout2 with h | ⟨h1, h2⟩
        · exact bb_t h rfl
        · exact bb_f h1 (bb_t h2 rfl)
  · right; left
    refine ⟨kfr_refl, ?_, fun L n nc ns => ⟨0, _, mgr_x.1, mgr_x.2, ?_⟩⟩
    · refine ab_C_of (by decide) rfl (Nat.le_of_ble_eq_true rfl) hT ?_
      refine r_K_fits_0 hT _ _ (by omega) (Nat.le_add_right _ _) (Nat.le_add_right _ _) ?_
      exact Or.inr ⟨_, need, rfl⟩
    · refine ab_C_of (by decide) rfl (Nat.le_of_ble_eq_true rfl) hT ?_
      refine r_M_fits_0 hT _ _ (Nat.le_refl _) (Nat.le_refl _) ?_
      rcases hbad with h | ⟨h1, h2⟩
      · exact bb_t h rfl
      · exact bb_f h1 (bb_t (by rw [z1]; exact h2) rfl)
end JFT
