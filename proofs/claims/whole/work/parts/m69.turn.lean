/-! BREAKS and MEND, on each side -/
section TRN
variable {w : ab_Wd} {d n nc ns : Nat} {I : Nat → Nat → Int32} {L : Nat → Nat → Int64}
variable {S N : Nat} {sd sd' : Nat → Bool} {e1 e2 pr fm : Nat → Nat} {l : List Nat}
theorem kC_snd (hc : kC I S N sd e1 e2 pr fm l) {x : Int32} (hx : ∀ j, j < 32 → bt x j = sd' j) (hs : ∀ j, sd' j = true → j < N) : kC (ab_up I kx_now_cables 2 x) S N sd' e1 e2 pr fm l := by
  obtain ⟨⟨p1, p2, p3, p4, p5, p6, p7, p8⟩, c2, c3, c4, c5, c6⟩ := hc
  refine ⟨⟨?_, ?_, p3, p4, p5, fun i hi => ?_, p7, fun j hj => ?_⟩, c2, c3, fun j hj => ?_, hs, fun j hj => ?_⟩
  · rw [ab_up_i, pk_un (by omega)]; exact p1
  · rw [ab_up_i, pk_un (by omega)]; exact p2
  · rw [ab_up_o (by decide)]; exact p6 i hi
  · rw [ab_up_o (by decide), ab_up_o (by decide), ab_up_o (by decide)]; exact p8 j hj
  · rw [ab_up_i, pk_us]; exact hx j hj
  · rw [ab_up_o (by decide)]; exact c6 j hj
theorem mC_snd (hm : mC I S N sd e1 e2 pr fm l) {x : Int32} (hx : ∀ j, j < 32 → bt x j = sd' j) (hs : ∀ j, sd' j = true → j < N) : mC (ab_up I mx_now 1 x) S N sd' e1 e2 pr fm l := by
  obtain ⟨⟨p1, p2, p3, p4, p5, p6⟩, m2, m3, m4, m5⟩ := hm
  refine ⟨⟨?_, ?_, p3, p4, p5, fun j hj => ?_⟩, m2, fun j hj => ?_, hs, fun j hj => ?_⟩
  · rw [ab_up_o (by decide)]; exact p1
  · rw [ab_up_i, pk_un (by omega)]; exact p2
  · rw [ab_up_i, pk_un (by omega), pk_un (by omega), pk_un (by omega)]; exact p6 j hj
  · rw [ab_up_i, pk_us]; exact hx j hj
  · rw [ab_up_i, pk_un (by omega)]; exact m5 j hj
theorem k_turn (hT : w.1.stackTraces = false) (hc : kC I S N sd e1 e2 pr fm l) (hF : kF I S pr (kr e1 e2 (l.filter sd))) {E0 E k why : Nat} {h : Nat → Nat → Nat} (hH : cH I E0 E h) (hlt : E < E0 + 960) (hE9 : E < 2 ^ 30) (hk : k < N) (hw : why < 8) {x : Int32} (hx : ∀ j, j < 32 → bt x j = sd' j) (hs : ∀ j, sd' j = true → j < N) :
    ∃ J, rgf J (ab_up I kx_now_cables 2 x) ∧ kC J S N sd' e1 e2 pr fm l ∧ kF J S pr (kr e1 e2 (l.filter sd')) ∧ cH J E0 (nxE (nB e1 e2 sd l) (nB e1 e2 sd' l) E) (nxH (nB e1 e2 sd l) (nB e1 e2 sd' l) why k ((net e1 e2 sd' l).map pr).sum E h) ∧ ab_U w (d + 3) mt_K_regrow [.ref kx, .int (nI why), .int (nI k)] (ab_up I kx_now_cables 2 x) L n nc ns J := by
  have p4 := hc.1.2.2.2.1
  have hH' : cH (ab_up I kx_now_cables 2 x) E0 E h := by
    unfold cH at *
    rw [ab_up_o (by decide), ab_up_o (by decide)]
    exact hH
  obtain ⟨J, r1, r2, r3, r4⟩ := ck_regrow (d := d) (w := w) (n := n) (nc := nc) (ns := ns) (L := L) hT (kC_snd hc hx hs) (A := nB e1 e2 sd l) (fun j hj => by rw [ab_up_o (by decide)]; exact hF.2.1 j hj) (nB_24 hc) (why := why) (k := k) hH' hlt hE9 hw (by omega)
  exact ⟨J, r1, kC_rgf r1 (kC_snd hc hx hs), r2, r3, r4⟩
theorem z_turnsNow (hT : w.1.stackTraces = false) (hm : mC I S N sd e1 e2 pr fm l) (hc24 : ∀ k, 24 ≤ k → nB e1 e2 sd l k = false) {E k : Nat} {h : Nat → Nat → Nat} (hH : mH (I mx_now) E h) (hE9 : E < 2 ^ 30) (hk : k < N) :
    ∃ J, mar J I ∧ mC J S N (fun j => if j = k then !sd k else sd j) e1 e2 pr fm l ∧ mH (J mx_now) (nxE (nB e1 e2 sd l) (nB e1 e2 (fun j => if j = k then !sd k else sd j) l) E) (nxH (nB e1 e2 sd l) (nB e1 e2 (fun j => if j = k then !sd k else sd j) l) (if sd k = true then 3 else 4) k ((net e1 e2 (fun j => if j = k then !sd k else sd j) l).map pr).sum E h) ∧ ab_U w (d + 5) mt_M_turnsNow [.ref mx, .int (nI k)] I L n nc ns J := by
  have p4 := hm.1.2.2.2.1
  obtain ⟨I2, r1, n1, n2, n3⟩ := z_netNow (d := d + 1) (w := w) (n := n) (nc := nc) (ns := ns) (L := L) hT hm
  have f := mfr_nm n1
  have hm2 := mC_fr f hm
  have hx : ∀ j, j < 32 → bt ((I2 mx_now 1) ^^^ ((1 : Int32) <<< (nI k &&& 31))) j = (fun j => if j = k then !sd k else sd j) j := fun j hj => by
    show _ = if j = k then !sd k else sd j
    rw [b_xor, hm2.2.2.1 j hj, ab_sh1 (by omega) hj]
    by_cases e : j = k
    · rw [if_pos e, e, decide_eq_true rfl]; cases sd k <;> rfl
    · rw [if_neg e, decide_eq_false e]; cases sd j <;> rfl
  have hs : ∀ j, (fun j => if j = k then !sd k else sd j) j = true → j < N := fun j hj => by
    have hj : (if j = k then !sd k else sd j) = true := hj
    by_cases e : j = k
    · omega
    · rw [if_neg e] at hj; exact hm.2.2.2.1 j hj
  have hm' := mC_snd hm2 hx hs
  have hH5 : mH ((ab_up I2 mx_now 1 ((I2 mx_now 1) ^^^ ((1 : Int32) <<< (nI k &&& 31)))) mx_now) E h := by
    refine ⟨by rw [ab_up_i, pk_un (by omega), mfr_now f]; exact hH.1, fun j h7 h8 q hq => ?_⟩
    rw [ab_up_i, pk_un (by omega), mfr_now f]; exact hH.2 j h7 h8 q hq
  obtain ⟨J, j1, j2, j3, j4⟩ := mz_swaps (d := d) (w := w) (n := n) (nc := nc) (ns := ns) (L := L) hT hm' (v := r1) (A := nB e1 e2 sd l) n2 hc24 (why := if sd k = true then 3 else 4) (k := k) hH5 hE9
  refine ⟨J, mar_trans j1 (mar_up (mar_of f)), mC_mar (j1.2 2 (Or.inr (Or.inl rfl))) j3 hm', j2, ?_⟩
  have hxk := hx k (by omega)
  have hxk : bt ((I2 mx_now 1) ^^^ ((1 : Int32) <<< (nI k &&& 31))) k = !sd k := by rw [hxk]; exact if_pos rfl
  refine ab_C_of (by decide) rfl (Nat.le_of_ble_eq_true rfl) hT ?_
  refine r_M_turnsNow_0 hT _ (Nat.le_refl _) (Nat.le_refl _) ?_
  refine ⟨r1, I2, n3, ?_⟩
  rw [nl_bit _ (show k < 32 by omega), hxk]
  refine ⟨fun g => ?_, fun g => ?_⟩
  · rw [if_neg (by cases hq : sd k <;> simp_all)] at j4
    exact ⟨J, j4, rfl⟩
  · rw [if_pos (by cases hq : sd k <;> simp_all)] at j4
    exact ⟨J, j4, rfl⟩
end TRN
