/-! SETTLE: the net and its ways anew -/
section STL
variable {w : ab_Wd} {d n nc ns : Nat} {I : Nat → Nat → Int32} {L : Nat → Nat → Int64}
variable {S N : Nat} {sd : Nat → Bool} {e1 e2 pr fm : Nat → Nat} {l : List Nat}
theorem k_settle (hT : w.1.stackTraces = false) (hc : kC I S N sd e1 e2 pr fm l) : ∃ J, (∀ c, ¬ knc c → J c = I c) ∧ kQ J S N sd e1 e2 pr fm l ∧ ab_U w (d + 4) mt_K_settle [.ref kx] I L n nc ns J := by
  obtain ⟨I2, g1, g2⟩ := g2_ok (d := d + 1) (w := w) (n := n) (nc := nc) (ns := ns) (L := L) hT hc.1 (am := sd) (v := I kx_now_cables 2) (fun k hk => hc.2.2.2.1 k (by omega))
  have hc2 : kC I2 S N sd e1 e2 pr fm l := kC_rgf (fun c c1 c2 c3 _ _ => g1.1 c c1 c2 c3) hc
  obtain ⟨J, r1, r2, r3⟩ := k_retrace (d := d) (w := w) (n := n) (nc := nc) (ns := ns) (L := L) hT hc2 g1
  have fr : ∀ c, ¬ knc c → J c = I2 c := fun c h => r1 c (fun e => h (by rw [e]; unfold knc; decide)) (fun e => h (by rw [e]; unfold knc; decide)) (fun e => h (by rw [e]; unfold knc; decide)) (fun e => h (by rw [e]; unfold knc; decide)) (fun e => h (by rw [e]; unfold knc; decide))
  refine ⟨J, ?_, ⟨?_, r2⟩, ?_⟩
  · intro c hcn
    rw [fr c hcn]
    exact g1.1 c (fun e => hcn (by rw [e]; unfold knc; decide)) (fun e => hcn (by rw [e]; unfold knc; decide)) (fun e => hcn (by rw [e]; unfold knc; decide))
  · unfold kC gr_pre at *
    rw [fr kx_now_cables (by unfold knc; decide), fr kx_now_cables_order (by unfold knc; decide), fr kx_now_cables_first (by unfold knc; decide), fr kx_now_cables_second (by unfold knc; decide), fr kx_now_cables_price (by unfold knc; decide), fr kx_now_cables_firm (by unfold knc; decide)]
    exact hc2
  · refine ab_C_of (by decide) rfl (Nat.le_of_ble_eq_true rfl) hT ?_
    refine r_K_settle_0 hT (Nat.le_refl _) (Nat.le_refl _) ?_
    exact ⟨I2, g2, J, r3, rfl⟩
end STL
