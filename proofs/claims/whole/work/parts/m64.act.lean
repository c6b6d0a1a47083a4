/-! ONE ACT: a swap on both sides -/
/-- the swaps on both sides, from E0 - 60 on in the class's ring -/
def hX (I : Nat → Nat → Int32) (E0 E : Nat) (h : Nat → Nat → Nat) : Prop := I kx_now_swaps 1 = nI E ∧ I mx_now 2 = nI E ∧ E0 ≤ E ∧ E ≤ E0 + 960 ∧ (∀ j, j < E → E0 ≤ j + 60 → swB (h j) ∧ I kx_now_swaps_rows (j % 1024) = nI (swK (h j))) ∧ ∀ j, j < E → E ≤ j + 60 → ∀ q, q < 5 → I mx_now (99 + 5 * (j % 60) + q) = swV (h j) q
theorem hX_R {I : Nat → Nat → Int32} {E0 E : Nat} {h : Nat → Nat → Nat} (hh : hX I E0 E h) (hE : E < 2 ^ 30) : hR I E h := by
  obtain ⟨h1, h2, h3, h4, h5, h6⟩ := hh
  exact ⟨h1, h2, hE, fun j h7 h8 => ⟨(h5 j h7 (by omega)).1, (h5 j h7 (by omega)).2, h6 j h7 h8⟩⟩
theorem hX_put {I J : Nat → Nat → Int32} {E0 E : Nat} {h : Nat → Nat → Nat} {f : Nat → Nat} (hh : hX I E0 E h) (hE : E < E0 + 960) (hf : swB f) (j1 : J kx_now_swaps 1 = nI (E + 1)) (j2 : J kx_now_swaps_rows = upd (I kx_now_swaps_rows) (E % 1024) (nI (swK f))) (j3 : J mx_now 2 = nI (E + 1)) (j4 : ∀ q, q < 5 → J mx_now (99 + 5 * (E % 60) + q) = swV f q) (j5 : ∀ j, j ≠ 2 → (j < 99 + 5 * (E % 60) ∨ 99 + 5 * (E % 60) + 5 ≤ j) → J mx_now j = I mx_now j) : hX J E0 (E + 1) (fun j => if j = E then f else h j) := by
  obtain ⟨h1, h2, h3, h4, h5, h6⟩ := hh
  refine ⟨j1, j3, by omega, by omega, fun j h7 h8 => ?_, fun j h7 h8 q hq => ?_⟩
  · by_cases e : j = E
    · subst e
      have eq : (fun j' => if j' = j then f else h j') j = f := if_pos rfl
      rw [eq, j2, pk_us]
      exact ⟨hf, rfl⟩
    · have eq : (fun j' => if j' = E then f else h j') j = h j := if_neg e
      rw [eq, j2, pk_un (by omega)]
      exact h5 j (by omega) h8
  · by_cases e : j = E
    · subst e
      have eq : (fun j' => if j' = j then f else h j') j = f := if_pos rfl
      rw [eq]
      exact j4 q hq
    · have eq : (fun j' => if j' = E then f else h j') j = h j := if_neg e
      rw [eq, j5 _ (by omega) (by omega)]
      exact h6 j (by omega) (by omega) q hq
/-- THE NET alone in the class's cells (its ways come later) -/
def kF (I : Nat → Nat → Int32) (S : Nat) (pr : Nat → Nat) (s : List Nat × (Nat → Nat)) : Prop := I kx_forest 1 = nI s.1.length ∧ (∀ k, k < 32 → bt (I kx_forest 2) k = decide (k ∈ s.1)) ∧ I kx_forest 3 = nI (s.1.map pr).sum ∧ I kx_forest 4 = nI (S - s.1.length) ∧ (∀ j, j < s.1.length → I kx_forest_order j = nI (s.1.getD j 0)) ∧ ∀ x, x < 10 → I kx_forest_piece x = nI (s.2 x)
theorem kF_of {I : Nat → Nat → Int32} {S : Nat} {e1 e2 pr : Nat → Nat} {s : List Nat × (Nat → Nat)} (h : kN I S e1 e2 pr s) : kF I S pr s := ⟨h.1, h.2.1, h.2.2.1, h.2.2.2.1, h.2.2.2.2.1, h.2.2.2.2.2.1⟩
/-- what the class's acts leave as it is, but for the net and the swaps -/
def rgf (J I : Nat → Nat → Int32) : Prop := ∀ c, c ≠ kx_forest → c ≠ kx_forest_order → c ≠ kx_forest_piece → c ≠ kx_now_swaps → c ≠ kx_now_swaps_rows → J c = I c
section ACT
variable {w : ab_Wd} {d n nc ns : Nat} {I : Nat → Nat → Int32} {L : Nat → Nat → Int64}
variable {S N : Nat} {sd : Nat → Bool} {e1 e2 pr fm : Nat → Nat} {l : List Nat}
theorem net_tot (hc : kC I S N sd e1 e2 pr fm l) : ((net e1 e2 sd l).map pr).sum < 16384 := by
  have hlen := kq_lenA hc sd
  have hS := hc.1.2.2.1
  have : ∀ q : List Nat, (∀ k ∈ q, pr k ≤ 999) → (q.map pr).sum ≤ 999 * q.length := by
    intro q
    induction q with
    | nil => intro _; exact Nat.le_refl _
    | cons a q ih =>
      intro h
      have := ih (fun k hk => h k (List.mem_cons_of_mem _ hk))
      have := h a List.mem_cons_self
      rw [List.map_cons, List.sum_cons, List.length_cons]; omega
  have := this (net e1 e2 sd l) (fun k hk => (hc.1.2.2.2.2.2.2.2 k ((kp_net hc.1 hc.2.1 (by have := hc.2.2.1; omega) sd).1 k hk)).2.2.2.2.2)
  omega
/-- the class regrows, the model tells its swap: from one E and h to one E' and h' -/
theorem kz_swap (hT : w.1.stackTraces = false) (hc : kC I S N sd e1 e2 pr fm l) {A : Nat → Bool} (hA : ∀ k, k < 32 → bt (I kx_forest 2) k = A k) (hA24 : ∀ k, 24 ≤ k → A k = false) {E why k : Nat} (hE : I kx_now_swaps 1 = nI E) (hE9 : E < 2 ^ 30) (hw : why < 8) (hk : k < 24) :
    ∃ J E', E ≤ E' ∧ E' ≤ E + 1 ∧ rgf J I ∧ kF J S pr (kr e1 e2 (l.filter sd)) ∧ ab_U w (d + 3) mt_K_regrow [.ref kx, .int (nI why), .int (nI k)] I L n nc ns J ∧ J kx_now_swaps 1 = nI E' ∧
      ∀ (I1 : Nat → Nat → Int32) (E0 : Nat) (h : Nat → Nat → Nat), I1 kx_now_swaps = I kx_now_swaps → I1 kx_now_swaps_rows = I kx_now_swaps_rows → hX I1 E0 E h → E < E0 + 960 → ∃ h', (∀ j, j < E → h' j = h j) ∧ ∀ (M0 : Nat → Nat → Int32) (v : Int32), mC M0 S N sd e1 e2 pr fm l → M0 mx_now 2 = nI E → (∀ j, 99 ≤ j → M0 mx_now j = I1 mx_now j) → (∀ k, k < 32 → bt v k = A k) → ∀ (L : Nat → Nat → Int64) (n nc ns : Nat), ∃ K, mar K M0 ∧ (∀ j, j < 99 → j ≠ 2 → K mx_now j = M0 mx_now j) ∧ ab_U w (d + 4) mt_M_swaps [.ref mx, .int (nI why), .int (nI k), .int v] M0 L n nc ns K ∧ ∀ X : Nat → Nat → Int32, X kx_now_swaps = J kx_now_swaps → X kx_now_swaps_rows = J kx_now_swaps_rows → X mx_now = K mx_now → hX X E0 E' h' := by
  obtain ⟨J, g1, g2, g3⟩ := k_regrow (d := d) (w := w) (n := n) (nc := nc) (ns := ns) (L := L) hT hc hA hA24 hE hE9 hw hk
  have fr : rgf J I := fun c c1 c2 c3 c4 c5 => by
    have := g1.1 c c1 c2 c3
    rw [this]
    exact if_neg (fun h => h.elim c4 c5)
  rcases g2 with ⟨s1, s2, s3⟩ | ⟨s1, s2, s3⟩
  · refine ⟨J, E, Nat.le_refl _, by omega, fr, g1.2, g3, by rw [s2]; exact hE, fun I1 E0 h e1' e2' hh hlt => ⟨h, fun _ _ => rfl, fun M0 v hm hM2 hMr hv L n nc ns => ?_⟩⟩
    obtain ⟨K, k1, k2, k3⟩ := z_swaps (d := d) (w := w) (n := n) (nc := nc) (ns := ns) (L := L) hT hm hv hA24 (why := why) (k := k) hM2 hE9
    rcases k2 with ⟨t1, t2⟩ | ⟨t1, -⟩
    · refine ⟨K, k1, fun j _ _ => by rw [t2], k3, fun X x1 x2 x3 => ?_⟩
      obtain ⟨h1, h2, h3, h4, h5, h6⟩ := hh
      refine ⟨by rw [x1, s2, ← e1']; exact h1, by rw [x3, t2]; exact hM2, h3, h4, fun j h7 h8 => ?_, fun j h7 h8 q hq => ?_⟩
      · rw [x2, s3, ← e2']; exact h5 j h7 h8
      · rw [x3, t2, hMr _ (by omega)]; exact h6 j h7 h8 q hq
    · exact absurd s1 t1
  · refine ⟨J, E + 1, by omega, Nat.le_refl _, fr, g1.2, g3, s2, fun I1 E0 h e1' e2' hh hlt => ⟨fun j => if j = E then swOf why k A (fun j => decide (j ∈ net e1 e2 sd l)) ((net e1 e2 sd l).map pr).sum else h j, fun j hj => if_neg (by omega), fun M0 v hm hM2 hMr hv L n nc ns => ?_⟩⟩
    · obtain ⟨K, k1, k2, k3⟩ := z_swaps (d := d) (w := w) (n := n) (nc := nc) (ns := ns) (L := L) hT hm hv hA24 (why := why) (k := k) hM2 hE9
      rcases k2 with ⟨t1, -⟩ | ⟨t1, t2, t3, t4⟩
      · exact absurd t1 s1
      · refine ⟨K, k1, fun j hj hj2 => t4 j hj2 (by omega), k3, fun X x1 x2 x3 => ?_⟩
        have hb : swB (swOf why k A (fun j => decide (j ∈ net e1 e2 sd l)) ((net e1 e2 sd l).map pr).sum) := swOf_B hw (by omega) (net_tot hc)
        have base : hX (fun c => if c = mx_now then M0 mx_now else I1 c) E0 E h := by
          obtain ⟨h1, h2, h3, h4, h5, h6⟩ := hh
          refine ⟨h1, hM2, h3, h4, h5, fun j h7 h8 q hq => ?_⟩
          show M0 mx_now _ = _
          rw [hMr _ (by omega)]; exact h6 j h7 h8 q hq
        exact hX_put base hlt hb (by rw [x1]; exact s2) (by rw [x2, s3, ← e2']; rfl) (by rw [x3]; exact t2) (fun q hq => by rw [x3]; exact t3 q hq) (fun j j1 j2 => by rw [x3]; exact t4 j j1 j2)
end ACT
