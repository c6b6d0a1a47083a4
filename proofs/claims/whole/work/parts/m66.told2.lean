/-! ACTS: how the swaps go on, for each side alone -/
noncomputable def nxE (A B : Nat → Bool) (E : Nat) : Nat := @ite _ (∀ j, A j = B j) (Classical.propDecidable _) E (E + 1)
noncomputable def nxH (A B : Nat → Bool) (why k tot E : Nat) (h : Nat → Nat → Nat) : Nat → Nat → Nat := @ite _ (∀ j, A j = B j) (Classical.propDecidable _) h (fun j => if j = E then swOf why k A B tot else h j)
theorem nx_t {A B : Nat → Bool} {why k tot E : Nat} {h : Nat → Nat → Nat} (e : ∀ j, A j = B j) : nxE A B E = E ∧ nxH A B why k tot E h = h := ⟨if_pos e, if_pos e⟩
theorem nx_f {A B : Nat → Bool} {why k tot E : Nat} {h : Nat → Nat → Nat} (e : ¬ ∀ j, A j = B j) : nxE A B E = E + 1 ∧ nxH A B why k tot E h = fun j => if j = E then swOf why k A B tot else h j := ⟨if_neg e, if_neg e⟩
/-- the class's swaps -/
def cH (I : Nat → Nat → Int32) (E0 E : Nat) (h : Nat → Nat → Nat) : Prop := I kx_now_swaps 1 = nI E ∧ E0 ≤ E ∧ E ≤ E0 + 960 ∧ ∀ j, j < E → E0 ≤ j + 60 → swB (h j) ∧ I kx_now_swaps_rows (j % 1024) = nI (swK (h j))
/-- a row's swaps -/
def mH (f : Nat → Int32) (E : Nat) (h : Nat → Nat → Nat) : Prop := f 2 = nI E ∧ ∀ j, j < E → E ≤ j + 60 → ∀ q, q < 5 → f (99 + 5 * (j % 60) + q) = swV (h j) q
section TL2
variable {w : ab_Wd} {d n nc ns : Nat} {I : Nat → Nat → Int32} {L : Nat → Nat → Int64}
variable {S N : Nat} {sd : Nat → Bool} {e1 e2 pr fm : Nat → Nat} {l : List Nat}
theorem ck_regrow (hT : w.1.stackTraces = false) (hc : kC I S N sd e1 e2 pr fm l) {A : Nat → Bool} (hA : ∀ k, k < 32 → bt (I kx_forest 2) k = A k) (hA24 : ∀ k, 24 ≤ k → A k = false) {E0 E why k : Nat} {h : Nat → Nat → Nat} (hH : cH I E0 E h) (hlt : E < E0 + 960) (hE9 : E < 2 ^ 30) (hw : why < 8) (hk : k < 24) :
    ∃ J, rgf J I ∧ kF J S pr (kr e1 e2 (l.filter sd)) ∧ cH J E0 (nxE A (fun j => decide (j ∈ net e1 e2 sd l)) E) (nxH A (fun j => decide (j ∈ net e1 e2 sd l)) why k ((net e1 e2 sd l).map pr).sum E h) ∧ ab_U w (d + 3) mt_K_regrow [.ref kx, .int (nI why), .int (nI k)] I L n nc ns J := by
  obtain ⟨h1, h3, h4, h5⟩ := hH
  obtain ⟨J, g1, g2, g3⟩ := k_regrow (d := d) (w := w) (n := n) (nc := nc) (ns := ns) (L := L) hT hc hA hA24 h1 hE9 hw hk
  have fr : rgf J I := fun c c1 c2 c3 c4 c5 => by
    have := g1.1 c c1 c2 c3
    rw [this]
    exact if_neg (fun h => h.elim c4 c5)
  refine ⟨J, fr, g1.2, ?_, g3⟩
  rcases g2 with ⟨s1, s2, s3⟩ | ⟨s1, s2, s3⟩
  · obtain ⟨x1, x2⟩ := nx_t (why := why) (k := k) (tot := ((net e1 e2 sd l).map pr).sum) (E := E) (h := h) s1
    rw [x1, x2]
    exact ⟨by rw [s2]; exact h1, h3, h4, fun j h7 h8 => by rw [s3]; exact h5 j h7 h8⟩
  · obtain ⟨x1, x2⟩ := nx_f (why := why) (k := k) (tot := ((net e1 e2 sd l).map pr).sum) (E := E) (h := h) s1
    rw [x1, x2]
    refine ⟨s2, by omega, by omega, fun j h7 h8 => ?_⟩
    by_cases e : j = E
    · subst e
      rw [show (fun j' => if j' = j then swOf why k A (fun j => decide (j ∈ net e1 e2 sd l)) ((net e1 e2 sd l).map pr).sum else h j') j = swOf why k A (fun j => decide (j ∈ net e1 e2 sd l)) ((net e1 e2 sd l).map pr).sum from if_pos rfl, s3, pk_us]
      exact ⟨swOf_B hw (by omega) (net_tot hc), rfl⟩
    · rw [show (fun j' => if j' = E then swOf why k A (fun j => decide (j ∈ net e1 e2 sd l)) ((net e1 e2 sd l).map pr).sum else h j') j = h j from if_neg e, s3, pk_un (by omega)]
      exact h5 j (by omega) h8
theorem mz_swaps (hT : w.1.stackTraces = false) (hm : mC I S N sd e1 e2 pr fm l) {v : Int32} {A : Nat → Bool} (hA : ∀ k, k < 32 → bt v k = A k) (hA24 : ∀ k, 24 ≤ k → A k = false) {E why k : Nat} {h : Nat → Nat → Nat} (hH : mH (I mx_now) E h) (hE9 : E < 2 ^ 30) :
    ∃ J, mar J I ∧ mH (J mx_now) (nxE A (fun j => decide (j ∈ net e1 e2 sd l)) E) (nxH A (fun j => decide (j ∈ net e1 e2 sd l)) why k ((net e1 e2 sd l).map pr).sum E h) ∧ (∀ j, j < 99 → j ≠ 2 → J mx_now j = I mx_now j) ∧ ab_U w (d + 4) mt_M_swaps [.ref mx, .int (nI why), .int (nI k), .int v] I L n nc ns J := by
  obtain ⟨h1, h2⟩ := hH
  obtain ⟨K, k1, k2, k3⟩ := z_swaps (d := d) (w := w) (n := n) (nc := nc) (ns := ns) (L := L) hT hm hA hA24 (why := why) (k := k) h1 hE9
  rcases k2 with ⟨t1, t2⟩ | ⟨t1, t2, t3, t4⟩
  · obtain ⟨x1, x2⟩ := nx_t (why := why) (k := k) (tot := ((net e1 e2 sd l).map pr).sum) (E := E) (h := h) t1
    refine ⟨K, k1, ?_, fun j _ _ => by rw [t2], k3⟩
    rw [x1, x2, t2]; exact ⟨h1, h2⟩
  · obtain ⟨x1, x2⟩ := nx_f (why := why) (k := k) (tot := ((net e1 e2 sd l).map pr).sum) (E := E) (h := h) t1
    refine ⟨K, k1, ?_, fun j hj hj2 => t4 j hj2 (by omega), k3⟩
    rw [x1, x2]
    refine ⟨t2, fun j h7 h8 q hq => ?_⟩
    by_cases e : j = E
    · subst e
      rw [show (fun j' => if j' = j then swOf why k A (fun j => decide (j ∈ net e1 e2 sd l)) ((net e1 e2 sd l).map pr).sum else h j') j = swOf why k A (fun j => decide (j ∈ net e1 e2 sd l)) ((net e1 e2 sd l).map pr).sum from if_pos rfl]
      exact t3 q hq
    · rw [show (fun j' => if j' = E then swOf why k A (fun j => decide (j ∈ net e1 e2 sd l)) ((net e1 e2 sd l).map pr).sum else h j') j = h j from if_neg e, t4 _ (by omega) (by omega)]
      exact h2 j (by omega) (by omega) q hq
end TL2
