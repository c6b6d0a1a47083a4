/-! THE CLASS'S CABLES (now): its small methods -/
section MCA
variable {w : ab_Wd} {d n nc ns : Nat} {I : Nat → Nat → Int32} {L : Nat → Nat → Int64}
theorem c_has (hT : w.1.stackTraces = false) (v : Int32) : ab_P w d mt_Cables_has [.ref kx_now_cables, .int v] I L n nc ns (if ¬ v < 0 ∧ ¬ I kx_now_cables 1 ≤ v then 1 else 0) := by
  refine ab_C_of (by decide) rfl (Nat.le_of_ble_eq_true rfl) hT ?_
  refine q_Cables_has_0 v (Nat.le_refl _) (Nat.le_refl _) ⟨fun h1 => ?_, fun h1 => ⟨fun h2 => ?_, fun h2 => ?_⟩⟩
  · refine q_Cables_has_16 v (Nat.le_refl _) (Nat.le_refl _) (q_Cables_has_17 v 0 (Nat.le_refl _) (Nat.le_refl _) ⟨rfl, ?_⟩)
    rw [if_neg (fun h => h.1 h1)]
  · refine q_Cables_has_16 v (Nat.le_refl _) (Nat.le_refl _) (q_Cables_has_17 v 0 (Nat.le_refl _) (Nat.le_refl _) ⟨rfl, ?_⟩)
    rw [if_neg (fun h => h.2 h2)]
  · refine q_Cables_has_17 v 1 (Nat.le_refl _) (Nat.le_refl _) ⟨rfl, ?_⟩
    rw [if_pos ⟨h1, h2⟩]
theorem c_hasSite (hT : w.1.stackTraces = false) (v : Int32) : ab_P w d mt_Cables_hasSite [.ref kx_now_cables, .int v] I L n nc ns (if ¬ v < 0 ∧ ¬ I kx_now_cables 0 ≤ v then 1 else 0) := by
  refine ab_C_of (by decide) rfl (Nat.le_of_ble_eq_true rfl) hT ?_
  refine q_Cables_hasSite_0 v (Nat.le_refl _) (Nat.le_refl _) ⟨fun h1 => ?_, fun h1 => ⟨fun h2 => ?_, fun h2 => ?_⟩⟩
  · refine q_Cables_hasSite_16 v (Nat.le_refl _) (Nat.le_refl _) (q_Cables_hasSite_17 v 0 (Nat.le_refl _) (Nat.le_refl _) ⟨rfl, ?_⟩)
    rw [if_neg (fun h => h.1 h1)]
  · refine q_Cables_hasSite_16 v (Nat.le_refl _) (Nat.le_refl _) (q_Cables_hasSite_17 v 0 (Nat.le_refl _) (Nat.le_refl _) ⟨rfl, ?_⟩)
    rw [if_neg (fun h => h.2 h2)]
  · refine q_Cables_hasSite_17 v 1 (Nat.le_refl _) (Nat.le_refl _) ⟨rfl, ?_⟩
    rw [if_pos ⟨h1, h2⟩]
theorem c_isSound (hT : w.1.stackTraces = false) (v : Int32) : ab_P w d mt_Cables_isSound [.ref kx_now_cables, .int v] I L n nc ns (if ((I kx_now_cables 2 >>> (v &&& 31)) &&& 1) = 1 then 1 else 0) := by
  refine ab_C_of (by decide) rfl (Nat.le_of_ble_eq_true rfl) hT ?_
  refine q_Cables_isSound_0_0 v (Nat.le_refl _) (Nat.le_refl _) ⟨fun h1 => ?_, fun h1 => ?_⟩
  · refine q_Cables_isSound_0_17 v 0 (Nat.le_refl _) (Nat.le_refl _) ⟨rfl, ?_⟩
    rw [if_neg h1]
  · refine q_Cables_isSound_0_17 v 1 (Nat.le_refl _) (Nat.le_refl _) ⟨rfl, ?_⟩
    rw [if_pos h1]
theorem c_otherEnd (hT : w.1.stackTraces = false) (v s : Int32) (hv : vp_in v 24) : ab_P w d mt_Cables_otherEnd [.ref kx_now_cables, .int v, .int s] I L n nc ns (if I kx_now_cables_first v.toNatClampNeg = s then I kx_now_cables_second v.toNatClampNeg else I kx_now_cables_first v.toNatClampNeg) := by
  refine ab_C_of (by decide) rfl (Nat.le_of_ble_eq_true rfl) hT ?_
  refine q_Cables_otherEnd_0 v s (Nat.le_refl _) (Nat.le_refl _) ⟨hv, fun h1 => ?_, fun h1 => ?_⟩
  · refine q_Cables_otherEnd_25 v s _ (Nat.le_refl _) (Nat.le_refl _) ?_
    rw [if_neg h1]
  · refine q_Cables_otherEnd_25 v s _ (Nat.le_refl _) (Nat.le_refl _) ?_
    rw [if_pos h1]
theorem c_crosses (hT : w.1.stackTraces = false) (v cut : Int32) (hv : vp_in v 24) : ab_P w d mt_Cables_crosses [.ref kx_now_cables, .int v, .int cut] I L n nc ns (if ((cut >>> (I kx_now_cables_first v.toNatClampNeg &&& 31)) &&& 1) = ((cut >>> (I kx_now_cables_second v.toNatClampNeg &&& 31)) &&& 1) then 0 else 1) := by
  refine ab_C_of (by decide) rfl (Nat.le_of_ble_eq_true rfl) hT ?_
  refine q_Cables_crosses_0 v cut (Nat.le_refl _) (Nat.le_refl _) ⟨hv, fun h1 => ?_, fun h1 => ?_⟩
  · refine q_Cables_crosses_28 v cut 0 (Nat.le_refl _) (Nat.le_refl _) ⟨rfl, ?_⟩
    rw [if_pos h1]
  · refine q_Cables_crosses_28 v cut 1 (Nat.le_refl _) (Nat.le_refl _) ⟨rfl, ?_⟩
    rw [if_neg h1]
/-- endingAt: the bits of the cables that end at v -/
theorem c_endingAt (hT : w.1.stackTraces = false) {N : Nat} (hN : I kx_now_cables 1 = nI N) (h24 : N ≤ 24) (v : Int32) : ab_P w d mt_Cables_endingAt [.ref kx_now_cables, .int v] I L n nc ns (ab_mask N fun k => decide (I kx_now_cables_first k = v ∨ I kx_now_cables_second k = v)) := by
  refine ab_C_of (by decide) rfl (Nat.le_of_ble_eq_true rfl) hT ?_
  refine q_Cables_endingAt_0 v (Nat.le_refl _) (Nat.le_refl _) ?_
  have loop : ∀ k i, i + k = N → ab_E w d mt_Cables_endingAt 4 [.ref kx_now_cables, .int v, .int (ab_mask i fun k => decide (I kx_now_cables_first k = v ∨ I kx_now_cables_second k = v)), .int (nI i)] [] (I, L, ab_RR, n, nc, ns) (.inl (some (.int (ab_mask N fun k => decide (I kx_now_cables_first k = v ∨ I kx_now_cables_second k = v)))), (I, L, ab_RR, n, nc, ns)) := by
    intro k
    induction k with
    | zero =>
      intro i hi
      refine q_Cables_endingAt_4 v _ (nI i) (Nat.le_refl _) (Nat.le_refl _) ⟨fun _ => ?_, fun h => absurd ?_ h⟩
      · rw [show i = N by omega]
      · rw [hN]; exact nI_le (by omega) (by omega)
    | succ k ih =>
      intro i hi
      have hin : vp_in (nI i) 24 := vp_in_nI (by omega) (by omega)
      have hcl : (nI i).toNatClampNeg = i := nI_clamp (by omega)
      have nx := ih (i + 1) (by omega)
      rw [ab_mask, ← nI_1] at nx
      refine q_Cables_endingAt_4 v _ (nI i) (Nat.le_refl _) (Nat.le_refl _) ⟨fun h => absurd h ?_, fun _ => ⟨hin, fun h1 => ?_, fun h1 => ⟨fun h2 => ?_, fun h2 => ?_⟩⟩⟩
      · rw [hN]; exact nI_ge (by omega) (by omega)
      · rw [hcl] at h1
        rw [if_pos (by rw [decide_eq_true_iff]; exact Or.inl h1)] at nx
        exact q_Cables_endingAt_32 v _ (nI i) (Nat.le_refl _) (Nat.le_refl _) (q_Cables_endingAt_38 v _ (nI i) (Nat.le_refl _) (Nat.le_refl _) nx)
      · rw [hcl] at h1 h2
        rw [if_neg (by rw [decide_eq_true_iff]; exact fun h => h.elim h1 h2)] at nx
        exact q_Cables_endingAt_38 v _ (nI i) (Nat.le_refl _) (Nat.le_refl _) nx
      · rw [hcl] at h2
        rw [if_pos (by rw [decide_eq_true_iff]; exact Or.inr h2)] at nx
        exact q_Cables_endingAt_32 v _ (nI i) (Nat.le_refl _) (Nat.le_refl _) (q_Cables_endingAt_38 v _ (nI i) (Nat.le_refl _) (Nat.le_refl _) nx)
  exact loop N 0 (by omega)
end MCA
