/-! A PRICE is told -/
section PRC
variable {w : ab_Wd} {d n nc ns : Nat} {I : Nat → Nat → Int32} {L : Nat → Nat → Int64}
variable {S N : Nat} {sd : Nat → Bool} {e1 e2 pr fm : Nat → Nat} {l : List Nat}
/-- the cables behind a new price, in their new order -/
theorem k_sortP (hT : w.1.stackTraces = false) (hc : kC I S N sd e1 e2 pr fm l) {k v : Nat} (hk : k < N) (h1 : 1 ≤ v) (h9 : v ≤ 999) : ∃ g l', od (fun j => if j = k then v else pr j) N l' ∧ kC (ab_row (ab_up I kx_now_cables_price k (nI v)) kx_now_cables_order g) S N sd e1 e2 (fun j => if j = k then v else pr j) fm l' ∧ ab_U w d mt_Cables_sort [.ref kx_now_cables] (ab_up I kx_now_cables_price k (nI v)) L n nc ns (ab_row (ab_up I kx_now_cables_price k (nI v)) kx_now_cables_order g) := by
  obtain ⟨⟨p1, p2, p3, p4, p5, p6, p7, p8⟩, c2, c3, c4, c5, c6⟩ := hc
  have hp : ∀ j, j < N → (ab_up I kx_now_cables_price k (nI v)) kx_now_cables_price j = nI ((fun j => if j = k then v else pr j) j) ∧ (fun j => if j = k then v else pr j) j ≤ 999 := fun j hj => by
    have q := p8 j hj
    show _ = nI (if j = k then v else pr j) ∧ (if j = k then v else pr j) ≤ 999
    rw [ab_up_i]
    by_cases e : j = k
    · rw [if_pos e, e, pk_us]; exact ⟨rfl, h9⟩
    · rw [if_neg e, pk_un e]; exact ⟨q.2.2.1, q.2.2.2.2.2⟩
  obtain ⟨g, l', g1, g2, g3, g4⟩ := s0_ok (d := d) (I := ab_up I kx_now_cables_price k (nI v)) (w := w) (n := n) (nc := nc) (ns := ns) (L := L) hT (N := N) (by rw [ab_up_o (by decide)]; exact p2) p4 hp
  refine ⟨g, l', g1, ⟨⟨?_, ?_, p3, p4, od_len g1, fun i hi => ?_, fun j hj => (g1.2 j).mp hj, fun j hj => ?_⟩, g1, c3, fun j hj => ?_, c5, fun j hj => ?_⟩, g4⟩
  · rw [ab_row_ne (by decide), ab_up_o (by decide)]; exact p1
  · rw [ab_row_ne (by decide), ab_up_o (by decide)]; exact p2
  · rw [ab_row_eq]; exact g2 i hi
  · obtain ⟨q1, q2, q3, q4, q5, q6⟩ := p8 j hj
    refine ⟨?_, ?_, ?_, q4, q5, (hp j hj).2⟩
    · rw [ab_row_ne (by decide), ab_up_o (by decide)]; exact q1
    · rw [ab_row_ne (by decide), ab_up_o (by decide)]; exact q2
    · rw [ab_row_ne (by decide)]; exact (hp j hj).1
  · rw [ab_row_ne (by decide), ab_up_o (by decide)]; exact c4 j hj
  · obtain ⟨q1, q2, q3, q4⟩ := c6 j hj
    refine ⟨?_, q2, ?_, q4⟩
    · rw [ab_row_ne (by decide), ab_up_o (by decide)]; exact q1
    · show 1 ≤ if j = k then v else pr j
      split <;> omega
/-- the model's row behind a new price -/
theorem mC_price' (hm : mC I S N sd e1 e2 pr fm l) {k v : Nat} (hk : k < N) (h1 : 1 ≤ v) (h9 : v ≤ 999) {l' : List Nat} (hl : od (fun j => if j = k then v else pr j) N l') : mC (ab_up I mx_now (51 + k) (nI v)) S N sd e1 e2 (fun j => if j = k then v else pr j) fm l' := by
  obtain ⟨⟨p1, p2, p3, p4, p5, p6⟩, m2, m3, m4, m5⟩ := hm
  refine ⟨⟨?_, ?_, p3, p4, hl, fun j hj => ?_⟩, m2, fun j hj => ?_, m4, fun j hj => ?_⟩
  · rw [ab_up_o (by decide)]; exact p1
  · rw [ab_up_i, pk_un (by omega)]; exact p2
  · obtain ⟨q1, q2, q3, q4, q5, q6⟩ := p6 j hj
    refine ⟨?_, ?_, ?_, q4, q5, ?_⟩
    · rw [ab_up_i, pk_un (by omega)]; exact q1
    · rw [ab_up_i, pk_un (by omega)]; exact q2
    · show _ = nI (if j = k then v else pr j)
      rw [ab_up_i]
      by_cases e : j = k
      · rw [if_pos e, e, pk_us]
      · rw [if_neg e, pk_un (by omega)]; exact q3
    · show (if j = k then v else pr j) ≤ 999
      split <;> omega
  · rw [ab_up_i, pk_un (by omega)]; exact m3 j hj
  · obtain ⟨q1, q2, q3, q4⟩ := m5 j hj
    refine ⟨?_, q2, ?_, q4⟩
    · rw [ab_up_i, pk_un (by omega)]; exact q1
    · show 1 ≤ if j = k then v else pr j
      split <;> omega
/-- a broken cable's price changes no net -/
theorem net_brk (hl : od pr N l) {k v : Nat} (hs : ¬ sd k = true) {l' : List Nat} (hl' : od (fun j => if j = k then v else pr j) N l') (hw : ∀ k, k < N → e1 k < S ∧ e2 k < S) (j : Nat) : j ∈ net e1 e2 sd l' ↔ j ∈ net e1 e2 sd l := by
  rw [net_mem (S := S) hl' hw sd j, net_mem (S := S) hl hw sd j]
  by_cases e : j = k
  · subst e
    exact ⟨fun h => absurd h.2.1 hs, fun h => absurd h.2.1 hs⟩
  · have hcn : ∀ x y, cn e1 e2 (fun i => i < N ∧ sd i = true ∧ ch (fun j => if j = k then v else pr j) i j) x y ↔ cn e1 e2 (fun i => i < N ∧ sd i = true ∧ ch pr i j) x y := fun x y => cn_congr (fun i => by
      by_cases ei : i = k
      · subst ei
        exact ⟨fun h => absurd h.2.1 hs, fun h => absurd h.2.1 hs⟩
      · rw [ch_upd ei e])
    rw [hcn]
end PRC
