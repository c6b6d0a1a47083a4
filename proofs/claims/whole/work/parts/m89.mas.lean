/-! the model's acts once more, with all that they leave as it is (for YEARS) -/
def mas (J I : Nat → Nat → Int32) : Prop := (∀ c, c ≠ mx → c ≠ mx_piece → c ≠ mx_taken → c ≠ mx_now → J c = I c) ∧ ∀ k, k ≠ 21 → k ≠ 22 → J mx k = I mx k
section MAS
variable {w : ab_Wd} {d n nc ns : Nat} {I : Nat → Nat → Int32} {L : Nat → Nat → Int64}
variable {S N : Nat} {sd : Nat → Bool} {e1 e2 pr fm : Nat → Nat} {l : List Nat}
theorem mas_nm {J : Nat → Nat → Int32} {s : List Nat × (Nat → Nat)} (h : nm_st J I S pr s) : mas J I := ⟨fun c a b c' _ => h.1 c a b c', h.2.1⟩
theorem mas_trans {K J : Nat → Nat → Int32} (h : mas K J) (g : mas J I) : mas K I := ⟨fun c h1 h2 h3 h4 => (h.1 c h1 h2 h3 h4).trans (g.1 c h1 h2 h3 h4), fun k h1 h2 => (h.2 k h1 h2).trans (g.2 k h1 h2)⟩
theorem mas_up {J : Nat → Nat → Int32} {k : Nat} {x : Int32} (h : mas J I) : mas (ab_up J mx_now k x) I := ⟨fun c h1 h2 h3 h4 => by rw [ab_up_o h4]; exact h.1 c h1 h2 h3 h4, fun j h1 h2 => by rw [ab_up_o (by decide)]; exact h.2 j h1 h2⟩
theorem y_swaps (hT : w.1.stackTraces = false) (hm : mC I S N sd e1 e2 pr fm l) {v : Int32} {A : Nat → Bool} (hA : ∀ k, k < 32 → bt v k = A k) (hA24 : ∀ k, 24 ≤ k → A k = false) {E why k : Nat} (hE : I mx_now 2 = nI E) (hE9 : E < 2 ^ 30) :
    ∃ J, mas J I ∧ (((∀ j, A j = decide (j ∈ net e1 e2 sd l)) ∧ J mx_now = I mx_now) ∨ ((¬ ∀ j, A j = decide (j ∈ net e1 e2 sd l)) ∧ J mx_now 2 = nI (E + 1) ∧ (∀ q, q < 5 → J mx_now (99 + 5 * (E % 60) + q) = swV (swOf why k A (fun j => decide (j ∈ net e1 e2 sd l)) ((net e1 e2 sd l).map pr).sum) q) ∧ ∀ j, j ≠ 2 → (j < 99 + 5 * (E % 60) ∨ 99 + 5 * (E % 60) + 5 ≤ j) → J mx_now j = I mx_now j)) ∧ ab_U w (d + 4) mt_M_swaps [.ref mx, .int (nI why), .int (nI k), .int v] I L n nc ns J := by
  have p4 := hm.1.2.2.2.1
  obtain ⟨I2, r1, g1, g2, g3⟩ := z_netNow (d := d) (w := w) (n := n) (nc := nc) (ns := ns) (L := L) hT hm
  have f := mfr_nm g1
  generalize hB : (fun j => decide (j ∈ net e1 e2 sd l)) = B
  have hBb : ∀ j, j < 32 → bt r1 j = B j := fun j hj => by rw [← hB]; exact g2 j hj
  have hB24 : ∀ j, 24 ≤ j → B j = false := fun j hj => by
    rw [← hB]
    refine decide_eq_false (fun h => ?_)
    have := net_rlt hm.1 sd j (List.mem_reverse.mpr h)
    omega
  have tot : I2 mx 22 = nI ((net e1 e2 sd l).map pr).sum := g1.2.2.2.1
  have sE : I2 mx_now 2 = nI E := by rw [mfr_now f]; exact hE
  generalize ha : 99 + 5 * (E % 60) = a
  have ha9 : 99 ≤ a ∧ a + 5 ≤ 399 := by omega
  have ia : (99 + (5 * ((I2 mx_now 2) - (I2 mx_now 2) / 60 * 60))) = nI a := by
    rw [sE, show nI E - nI E / 60 * 60 = nI (E % 60) from nI_rem (b := 60) (by omega) (by omega), nl_mul2, nl_add2, ← ha]
  generalize ho : v &&& (r1 ^^^ (-1)) = ou
  generalize hi : r1 &&& (v ^^^ (-1)) = inn
  have bo : ∀ j, j < 32 → bt ou j = (A j && !B j) := fun j hj => by rw [← ho, b_and, hA j hj, ab_bnot _ hj, hBb j hj]
  have bi : ∀ j, j < 32 → bt inn j = (B j && !A j) := fun j hj => by rw [← hi, b_and, hBb j hj, ab_bnot _ hj, hA j hj]
  have eo : lw (fun k => bt ou k) = lw (fun j => A j && !B j) := lw_cong (fun j hj => bo j (by omega))
  have ei : lw (fun k => bt inn k) = lw (fun j => B j && !A j) := lw_cong (fun j hj => bi j (by omega))
  have ho24 : ∀ t, 24 ≤ t → t < 32 → bt ou t = false := fun t h1 h2 => by rw [bo t h2, hA24 t h1]; rfl
  have hi24 : ∀ t, 24 ≤ t → t < 32 → bt inn t = false := fun t h1 h2 => by rw [bi t h2, hB24 t h1]; rfl
  have z0 : ∀ j, j < 32 → bt (0 : Int32) j = false := fun j hj => by
    have : ∀ j : Fin 32, bt (0 : Int32) j.1 = false := by decide
    exact this ⟨j, hj⟩
  have zo : ou = 0 → lw (fun j => A j && !B j) = 0 := fun h => lw_0 (fun j hj => by rw [← bo j (by omega), h]; exact z0 j (by omega))
  have zi : inn = 0 → lw (fun j => B j && !A j) = 0 := fun h => lw_0 (fun j hj => by rw [← bi j (by omega), h]; exact z0 j (by omega))
  have tzo : ¬ ou = 0 → ∀ K : Nat → Nat → Int32, ab_P w (d + 3) mt_Integer_numberOfTrailingZeros [.int ou] K L n nc ns (nI (lw (fun j => A j && !B j)) - 1) := fun h K => by
    rw [← eo]; exact z_tzX hT ho24 h
  have tzi : ¬ inn = 0 → ∀ K : Nat → Nat → Int32, ab_P w (d + 3) mt_Integer_numberOfTrailingZeros [.int inn] K L n nc ns (nI (lw (fun j => B j && !A j)) - 1) := fun h K => by
    rw [← ei]; exact z_tzX hT hi24 h
  by_cases hs : ou = 0 ∧ inn = 0
  · refine ⟨I2, mas_nm g1, Or.inl ⟨fun j => ?_, mfr_now f⟩, ?_⟩
    · have hAB : A j = B j := by
        by_cases hj : j < 32
        · have u1 := bo j hj
          have u2 := bi j hj
          rw [hs.1, z0 j hj] at u1
          rw [hs.2, z0 j hj] at u2
          exact bool_same u1 u2
        · rw [hA24 j (by omega), hB24 j (by omega)]
      rw [hAB, ← hB]
    · refine ab_C_of (by decide) rfl (Nat.le_of_ble_eq_true rfl) hT ?_
      refine r_M_swaps_0 hT _ _ _ (Nat.le_refl _) (Nat.le_refl _) ?_
      refine ⟨r1, I2, g3, ?_⟩
      rw [ho, hi]
      exact bb_t' hs.1 (bb_t' hs.2 rfl)
  · have mem : ∀ x y : Int32, x = nI (lw (fun j => A j && !B j)) - 1 → y = nI (lw (fun j => B j && !A j)) - 1 → ∀ M5 : Nat → Nat → Int32, M5 = ab_up (ab_up (ab_up (ab_up (ab_up I2 mx_now a (nI why)) mx_now (a + 1) (nI k)) mx_now (a + 2) x) mx_now (a + 3) y) mx_now (a + 4) (I2 mx 22) → mas (ab_up M5 mx_now 2 (M5 mx_now 2 + 1)) I ∧ (((∀ j, A j = decide (j ∈ net e1 e2 sd l)) ∧ (ab_up M5 mx_now 2 (M5 mx_now 2 + 1)) mx_now = I mx_now) ∨ ((¬ ∀ j, A j = decide (j ∈ net e1 e2 sd l)) ∧ (ab_up M5 mx_now 2 (M5 mx_now 2 + 1)) mx_now 2 = nI (E + 1) ∧ (∀ q, q < 5 → (ab_up M5 mx_now 2 (M5 mx_now 2 + 1)) mx_now (a + q) = swV (swOf why k A B ((net e1 e2 sd l).map pr).sum) q) ∧ ∀ j, j ≠ 2 → (j < a ∨ a + 5 ≤ j) → (ab_up M5 mx_now 2 (M5 mx_now 2 + 1)) mx_now j = I mx_now j)) := by
      intro x y hx hy M5 hM
      have r2 : M5 mx_now 2 = nI E := by
        rw [hM, ab_up_i, pk_un (by omega), ab_up_i, pk_un (by omega), ab_up_i, pk_un (by omega), ab_up_i, pk_un (by omega), ab_up_i, pk_un (by omega)]; exact sE
      refine ⟨?_, Or.inr ⟨fun h => hs ⟨b_ext fun j hj => ?_, b_ext fun j hj => ?_⟩, by rw [ab_up_i, pk_us, r2]; exact nI_1 _, fun q hq => ?_, fun j h1 h2 => ?_⟩⟩
      · rw [hM]
        exact mas_up (mas_up (mas_up (mas_up (mas_up (mas_up (mas_nm g1))))))
      · have e : A j = B j := by rw [← hB]; exact h j
        rw [bo j hj, z0 j hj, e]; cases B j <;> rfl
      · have e : A j = B j := by rw [← hB]; exact h j
        rw [bi j hj, z0 j hj, e]; cases B j <;> rfl
      · rw [ab_up_i, pk_un (by omega), hM]
        have hq : q = 0 ∨ q = 1 ∨ q = 2 ∨ q = 3 ∨ q = 4 := by omega
        rcases hq with e | e | e | e | e <;> subst e
        · rw [ab_up_i, pk_un (by omega), ab_up_i, pk_un (by omega), ab_up_i, pk_un (by omega), ab_up_i, pk_un (by omega), ab_up_i]
          show upd _ a _ a = _
          rw [pk_us]; rfl
        · rw [ab_up_i, pk_un (by omega), ab_up_i, pk_un (by omega), ab_up_i, pk_un (by omega), ab_up_i, pk_us]; rfl
        · rw [ab_up_i, pk_un (by omega), ab_up_i, pk_un (by omega), ab_up_i, pk_us, hx]; rfl
        · rw [ab_up_i, pk_un (by omega), ab_up_i, pk_us, hy]; rfl
        · rw [ab_up_i, pk_us, tot]; rfl
      · rw [ab_up_i, pk_un h1, hM, ab_up_i, pk_un (by omega), ab_up_i, pk_un (by omega), ab_up_i, pk_un (by omega), ab_up_i, pk_un (by omega), ab_up_i, pk_un (by omega), mfr_now f]
    have n0 : vp_in (nI a) 399 := vp_in_nI (by omega) (by omega)
    have n1 : vp_in (nI (a + 1)) 399 := vp_in_nI (by omega) (by omega)
    have n2 : vp_in (nI (a + 2)) 399 := vp_in_nI (by omega) (by omega)
    have n3 : vp_in (nI (a + 3)) 399 := vp_in_nI (by omega) (by omega)
    have n4 : vp_in (nI (a + 4)) 399 := vp_in_nI (by omega) (by omega)
    by_cases h1 : ou = 0
    · have h2 : ¬ inn = 0 := fun h2 => hs ⟨h1, h2⟩
      obtain ⟨u1, u2⟩ := mem (-1) _ (by rw [zo h1]; rfl) rfl _ rfl
      refine ⟨_, u1, u2, ?_⟩
      refine ab_C_of (by decide) rfl (Nat.le_of_ble_eq_true rfl) hT ?_
      refine r_M_swaps_0 hT _ _ _ (Nat.le_refl _) (Nat.le_refl _) ?_
      refine ⟨r1, I2, g3, ?_⟩
      simp (disch := omega) only [ho, hi, ia, nl_add1, nI_clamp]
      exact bb_t' h1 (bb_f' h2 ⟨n0, n1, bb_t' h1 ⟨n2, bb_f' h2 ⟨_, tzi h2 _, n3, n4, rfl⟩⟩⟩)
    · by_cases h2 : inn = 0
      · obtain ⟨u1, u2⟩ := mem _ (-1) rfl (by rw [zi h2]; rfl) _ rfl
        refine ⟨_, u1, u2, ?_⟩
        refine ab_C_of (by decide) rfl (Nat.le_of_ble_eq_true rfl) hT ?_
        refine r_M_swaps_0 hT _ _ _ (Nat.le_refl _) (Nat.le_refl _) ?_
        refine ⟨r1, I2, g3, ?_⟩
        simp (disch := omega) only [ho, hi, ia, nl_add1, nI_clamp]
        exact bb_f' h1 ⟨n0, n1, bb_f' h1 ⟨_, tzo h1 _, n2, bb_t' h2 ⟨n3, n4, rfl⟩⟩⟩
      · obtain ⟨u1, u2⟩ := mem _ _ rfl rfl _ rfl
        refine ⟨_, u1, u2, ?_⟩
        refine ab_C_of (by decide) rfl (Nat.le_of_ble_eq_true rfl) hT ?_
        refine r_M_swaps_0 hT _ _ _ (Nat.le_refl _) (Nat.le_refl _) ?_
        refine ⟨r1, I2, g3, ?_⟩
        simp (disch := omega) only [ho, hi, ia, nl_add1, nI_clamp]
        exact bb_f' h1 ⟨n0, n1, bb_f' h1 ⟨_, tzo h1 _, n2, bb_f' h2 ⟨_, tzi h2 _, n3, n4, rfl⟩⟩⟩
theorem my_swaps (hT : w.1.stackTraces = false) (hm : mC I S N sd e1 e2 pr fm l) {v : Int32} {A : Nat → Bool} (hA : ∀ k, k < 32 → bt v k = A k) (hA24 : ∀ k, 24 ≤ k → A k = false) {E why k : Nat} {h : Nat → Nat → Nat} (hH : mH (I mx_now) E h) (hE9 : E < 2 ^ 30) :
    ∃ J, mas J I ∧ mH (J mx_now) (nxE A (fun j => decide (j ∈ net e1 e2 sd l)) E) (nxH A (fun j => decide (j ∈ net e1 e2 sd l)) why k ((net e1 e2 sd l).map pr).sum E h) ∧ (∀ j, j < 99 → j ≠ 2 → J mx_now j = I mx_now j) ∧ ab_U w (d + 4) mt_M_swaps [.ref mx, .int (nI why), .int (nI k), .int v] I L n nc ns J := by
  obtain ⟨h1, h2⟩ := hH
  obtain ⟨K, k1, k2, k3⟩ := y_swaps (d := d) (w := w) (n := n) (nc := nc) (ns := ns) (L := L) hT hm hA hA24 (why := why) (k := k) h1 hE9
  rcases k2 with ⟨t1, t2⟩ | ⟨t1, t2, t3, t4⟩
  · obtain ⟨x1, x2⟩ := nx_t (why := why) (k := k) (tot := ((net e1 e2 sd l).map pr).sum) (E := E) (h := h) t1
    refine ⟨K, k1, ?_, fun j _ _ => by rw [t2], k3⟩
    rw [x1, x2, t2]; exact ⟨h1, h2⟩
  · obtain ⟨x1, x2⟩ := nx_f (why := why) (k := k) (tot := ((net e1 e2 sd l).map pr).sum) (E := E) (h := h) t1
    refine ⟨K, k1, ?_, fun j hj hj2 => t4 j hj2 (by omega), k3⟩
    rw [x1, x2]
    refine ⟨t2, fun j h7 h8 q hq => ?_⟩
    by_cases e : j = E
    · subst e
      rw [show (fun j' => if j' = j then swOf why k A (fun j => decide (j ∈ net e1 e2 sd l)) ((net e1 e2 sd l).map pr).sum else h j') j = swOf why k A (fun j => decide (j ∈ net e1 e2 sd l)) ((net e1 e2 sd l).map pr).sum from if_pos rfl]
      exact t3 q hq
    · rw [show (fun j' => if j' = E then swOf why k A (fun j => decide (j ∈ net e1 e2 sd l)) ((net e1 e2 sd l).map pr).sum else h j') j = h j from if_neg e, t4 _ (by omega) (by omega)]
      exact h2 j (by omega) (by omega) q hq
theorem y_pricesNow (hT : w.1.stackTraces = false) (hm : mC I S N sd e1 e2 pr fm l) (hc24 : ∀ k, 24 ≤ k → nB e1 e2 sd l k = false) {E k v : Nat} {h : Nat → Nat → Nat} (hH : mH (I mx_now) E h) (hE9 : E < 2 ^ 30) (hk : k < N) (h1 : 1 ≤ v) (h9 : v ≤ 999) {l' : List Nat} (hl : od (fun j => if j = k then v else pr j) N l') :
    ∃ J, mas J I ∧ mC J S N sd e1 e2 (fun j => if j = k then v else pr j) fm l' ∧ mH (J mx_now) (nxE (nB e1 e2 sd l) (nB e1 e2 sd l') E) (nxH (nB e1 e2 sd l) (nB e1 e2 sd l') (if v ≤ pr k then 2 else 1) k ((net e1 e2 sd l').map (fun j => if j = k then v else pr j)).sum E h) ∧ ab_U w (d + 5) mt_M_pricesNow [.ref mx, .int (nI k), .int (nI v)] I L n nc ns J := by
  have p4 := hm.1.2.2.2.1
  have hw : ∀ k, k < N → e1 k < S ∧ e2 k < S := fun k hk => ⟨(hm.1.2.2.2.2.2 k hk).2.2.2.1, (hm.1.2.2.2.2.2 k hk).2.2.2.2.1⟩
  have q3 := (hm.1.2.2.2.2.2 k hk).2.2.1
  have q6 := (hm.1.2.2.2.2.2 k hk).2.2.2.2.2
  have ek : (51 + nI k) = nI (51 + k) := nl_add2 51 k
  by_cases e : v = pr k
  · subst e
    have same : ∀ j, nB e1 e2 sd l j = nB e1 e2 sd l' j := fun j => by
      unfold nB
      refine decide_eq_decide.mpr ?_
      rw [net_mem (S := S) hl hw sd j, net_mem (S := S) hm.1.2.2.2.2.1 hw sd j, show (fun j => if j = k then pr k else pr j) = pr from upd_self]
    obtain ⟨x1, x2⟩ := nx_t (why := if pr k ≤ pr k then 2 else 1) (k := k) (tot := ((net e1 e2 sd l').map (fun j => if j = k then pr k else pr j)).sum) (E := E) (h := h) same
    have hm' := mC_price' hm hk h1 h9 hl
    refine ⟨I, ⟨fun _ _ _ _ _ => rfl, fun _ _ _ => rfl⟩, mC_mar (I := ab_up I mx_now (51 + k) (nI (pr k))) (by rw [ab_up_o (by decide)]) (fun j _ _ => ?_) hm', by rw [x1, x2]; exact hH, ?_⟩
    · rw [ab_up_i]
      by_cases ej : j = 51 + k
      · rw [ej, pk_us]; exact q3
      · rw [pk_un ej]
    · refine ab_C_of (by decide) rfl (Nat.le_of_ble_eq_true rfl) hT ?_
      refine r_M_pricesNow_0 hT _ _ (Nat.le_refl _) (Nat.le_refl _) ?_
      rw [ek, nI_clamp (by omega), q3]
      exact ⟨vp_in_nI (by omega) (by omega), bb_t' rfl rfl⟩
  · obtain ⟨I5, r4, n1, n2, n3⟩ := z_netNow (d := d + 1) (w := w) (n := n) (nc := nc) (ns := ns) (L := L) hT hm
    have f := mfr_nm n1
    have hm5 := mC_fr f hm
    have hm' := mC_price' hm5 hk h1 h9 hl
    have hs5 : ((ab_up I5 mx_now (51 + k) (nI v)) mx_now 1) = I mx_now 1 := by rw [ab_up_i, pk_un (by omega), mfr_now f]
    have hsk := hm.2.2.1 k (by omega)
    have hH5 : mH ((ab_up I5 mx_now (51 + k) (nI v)) mx_now) E h := by
      refine ⟨by rw [ab_up_i, pk_un (by omega), mfr_now f]; exact hH.1, fun j h7 h8 q hq => ?_⟩
      rw [ab_up_i, pk_un (by omega), mfr_now f]; exact hH.2 j h7 h8 q hq
    have ma5 : mas (ab_up I5 mx_now (51 + k) (nI v)) I := mas_up (mas_nm n1)
    by_cases hs : sd k = true
    · obtain ⟨J, j1, j2, j3, j4⟩ := my_swaps (d := d) (w := w) (n := n) (nc := nc) (ns := ns) (L := L) hT hm' (v := r4) (A := nB e1 e2 sd l) n2 hc24 (why := if v ≤ pr k then 2 else 1) (k := k) hH5 hE9
      refine ⟨J, mas_trans j1 ma5, mC_mar (j1.2 2 (by decide) (by decide)) j3 hm', j2, ?_⟩
      refine ab_C_of (by decide) rfl (Nat.le_of_ble_eq_true rfl) hT ?_
      refine r_M_pricesNow_0 hT _ _ (Nat.le_refl _) (Nat.le_refl _) ?_
      rw [ek, nI_clamp (by omega), q3]
      refine ⟨vp_in_nI (by omega) (by omega), bb_f' (fun h => e ((nI_eq (by omega) (by omega)).mp h)) ⟨r4, I5, n3, ?_⟩⟩
      rw [nl_bit _ (show k < 32 by omega), hs5, hsk]
      refine bb_t hs ⟨fun hle => ?_, fun hle => ?_⟩
      · rw [if_pos ((nI_leI (by omega) (by omega)).mp hle)] at j4
        exact ⟨J, j4, rfl⟩
      · rw [if_neg (fun h => hle ((nI_leI (by omega) (by omega)).mpr h))] at j4
        exact ⟨J, j4, rfl⟩
    · have same : ∀ j, nB e1 e2 sd l j = nB e1 e2 sd l' j := fun j => by
        unfold nB
        exact decide_eq_decide.mpr (net_brk hm.1.2.2.2.2.1 hs hl hw j).symm
      obtain ⟨x1, x2⟩ := nx_t (why := if v ≤ pr k then 2 else 1) (k := k) (tot := ((net e1 e2 sd l').map (fun j => if j = k then v else pr j)).sum) (E := E) (h := h) same
      refine ⟨_, ma5, hm', by rw [x1, x2]; exact hH5, ?_⟩
      refine ab_C_of (by decide) rfl (Nat.le_of_ble_eq_true rfl) hT ?_
      refine r_M_pricesNow_0 hT _ _ (Nat.le_refl _) (Nat.le_refl _) ?_
      rw [ek, nI_clamp (by omega), q3]
      refine ⟨vp_in_nI (by omega) (by omega), bb_f' (fun h => e ((nI_eq (by omega) (by omega)).mp h)) ⟨r4, I5, n3, ?_⟩⟩
      rw [nl_bit _ (show k < 32 by omega), hs5, hsk]
      exact bb_f hs rfl
theorem y_turnsNow (hT : w.1.stackTraces = false) (hm : mC I S N sd e1 e2 pr fm l) (hc24 : ∀ k, 24 ≤ k → nB e1 e2 sd l k = false) {E k : Nat} {h : Nat → Nat → Nat} (hH : mH (I mx_now) E h) (hE9 : E < 2 ^ 30) (hk : k < N) :
    ∃ J, mas J I ∧ mC J S N (fun j => if j = k then !sd k else sd j) e1 e2 pr fm l ∧ mH (J mx_now) (nxE (nB e1 e2 sd l) (nB e1 e2 (fun j => if j = k then !sd k else sd j) l) E) (nxH (nB e1 e2 sd l) (nB e1 e2 (fun j => if j = k then !sd k else sd j) l) (if sd k = true then 3 else 4) k ((net e1 e2 (fun j => if j = k then !sd k else sd j) l).map pr).sum E h) ∧ ab_U w (d + 5) mt_M_turnsNow [.ref mx, .int (nI k)] I L n nc ns J := by
  have p4 := hm.1.2.2.2.1
  obtain ⟨I2, r1, n1, n2, n3⟩ := z_netNow (d := d + 1) (w := w) (n := n) (nc := nc) (ns := ns) (L := L) hT hm
  have f := mfr_nm n1
  have hm2 := mC_fr f hm
  have hx : ∀ j, j < 32 → bt ((I2 mx_now 1) ^^^ ((1 : Int32) <<< (nI k &&& 31))) j = (fun j => if j = k then !sd k else sd j) j := fun j hj => by
    show _ = if j = k then !sd k else sd j
    rw [b_xor, hm2.2.2.1 j hj, ab_sh1 (by omega) hj]
    by_cases e : j = k
    · rw [if_pos e, e, decide_eq_true rfl]; cases sd k <;> rfl
    · rw [if_neg e, decide_eq_false e]; cases sd j <;> rfl
  have hs : ∀ j, (fun j => if j = k then !sd k else sd j) j = true → j < N := fun j hj => by
    have hj : (if j = k then !sd k else sd j) = true := hj
    by_cases e : j = k
    · omega
    · rw [if_neg e] at hj; exact hm.2.2.2.1 j hj
  have hm' := mC_snd hm2 hx hs
  have hH5 : mH ((ab_up I2 mx_now 1 ((I2 mx_now 1) ^^^ ((1 : Int32) <<< (nI k &&& 31)))) mx_now) E h := by
    refine ⟨by rw [ab_up_i, pk_un (by omega), mfr_now f]; exact hH.1, fun j h7 h8 q hq => ?_⟩
    rw [ab_up_i, pk_un (by omega), mfr_now f]; exact hH.2 j h7 h8 q hq
  obtain ⟨J, j1, j2, j3, j4⟩ := my_swaps (d := d) (w := w) (n := n) (nc := nc) (ns := ns) (L := L) hT hm' (v := r1) (A := nB e1 e2 sd l) n2 hc24 (why := if sd k = true then 3 else 4) (k := k) hH5 hE9
  refine ⟨J, mas_trans j1 (mas_up (mas_nm n1)), mC_mar (j1.2 2 (by decide) (by decide)) j3 hm', j2, ?_⟩
  have hxk := hx k (by omega)
  have hxk : bt ((I2 mx_now 1) ^^^ ((1 : Int32) <<< (nI k &&& 31))) k = !sd k := by rw [hxk]; exact if_pos rfl
  refine ab_C_of (by decide) rfl (Nat.le_of_ble_eq_true rfl) hT ?_
  refine r_M_turnsNow_0 hT _ (Nat.le_refl _) (Nat.le_refl _) ?_
  refine ⟨r1, I2, n3, ?_⟩
  rw [nl_bit _ (show k < 32 by omega), hxk]
  refine ⟨fun g => ?_, fun g => ?_⟩
  · rw [if_neg (by cases hq : sd k <;> simp_all)] at j4
    exact ⟨J, j4, rfl⟩
  · rw [if_pos (by cases hq : sd k <;> simp_all)] at j4
    exact ⟨J, j4, rfl⟩
end MAS
