/-! the ways behind an act -/
section WYS
variable {w : ab_Wd} {d n nc ns : Nat} {I : Nat → Nat → Int32} {L : Nat → Nat → Int64}
variable {S N : Nat} {sd : Nat → Bool} {e1 e2 pr fm : Nat → Nat} {l : List Nat}
theorem k_ways (hT : w.1.stackTraces = false) (hc : kC I S N sd e1 e2 pr fm l) (hF : kF I S pr (kr e1 e2 (l.filter sd))) : ∃ J, (∀ a, a ≠ kx_ways → a ≠ kx_ways_span → a ≠ kx_ways_hops → a ≠ kx_ways_step → a ≠ kx_ways_dearest → J a = I a) ∧ kQ J S N sd e1 e2 pr fm l ∧ ab_U w (d + 3) mt_Ways_trace [.ref kx_ways, .ref kx_now_cables, .ref kx_forest] I L n nc ns J := by
  have g1 : gr_st I I kx_forest kx_forest_order kx_forest_piece S pr (kr e1 e2 (l.filter sd)) := ⟨fun _ _ _ _ => rfl, hF⟩
  obtain ⟨J, r1, r2, r3⟩ := k_retrace (d := d) (w := w) (n := n) (nc := nc) (ns := ns) (L := L) hT hc g1
  refine ⟨J, r1, ⟨?_, r2⟩, r3⟩
  unfold kC gr_pre at *
  rw [r1 kx_now_cables (by decide) (by decide) (by decide) (by decide) (by decide), r1 kx_now_cables_order (by decide) (by decide) (by decide) (by decide) (by decide), r1 kx_now_cables_first (by decide) (by decide) (by decide) (by decide) (by decide), r1 kx_now_cables_second (by decide) (by decide) (by decide) (by decide) (by decide), r1 kx_now_cables_price (by decide) (by decide) (by decide) (by decide) (by decide), r1 kx_now_cables_firm (by decide) (by decide) (by decide) (by decide) (by decide)]
  exact hc
end WYS
