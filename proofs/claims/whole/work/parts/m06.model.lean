/-! THE MODEL'S small methods -/
section MMO
variable {w : ab_Wd} {d n nc ns : Nat} {I : Nat → Nat → Int32} {L : Nat → Nat → Int64}
theorem z_many (hT : w.1.stackTraces = false) : ab_P w d mt_M_many [.ref mx] I L n nc ns (I mx_now 0) := by
  refine ab_C_of (by decide) rfl (Nat.le_of_ble_eq_true rfl) hT ?_
  exact q_M_many_0 (Nat.le_refl _) (Nat.le_refl _) rfl
theorem z_priceOf (hT : w.1.stackTraces = false) (v : Int32) (hv : vp_in (51 + v) 399) : ab_P w d mt_M_priceOf [.ref mx, .int v] I L n nc ns (I mx_now (51 + v).toNatClampNeg) := by
  refine ab_C_of (by decide) rfl (Nat.le_of_ble_eq_true rfl) hT ?_
  exact q_M_priceOf_0 v (Nat.le_refl _) (Nat.le_refl _) ⟨hv, rfl⟩
theorem z_has (hT : w.1.stackTraces = false) (s v : Int32) : ab_P w d mt_M_has [.int s, .int v] I L n nc ns (if ((s >>> (v &&& 31)) &&& 1) = 1 then 1 else 0) := by
  refine ab_C_of (by decide) rfl (Nat.le_of_ble_eq_true rfl) hT ?_
  refine q_M_has_0 s v (Nat.le_refl _) (Nat.le_refl _) ⟨fun h => ?_, fun h => ?_⟩
  · refine q_M_has_14 s v 0 (Nat.le_refl _) (Nat.le_refl _) ⟨rfl, ?_⟩
    rw [if_neg h]
  · refine q_M_has_14 s v 1 (Nat.le_refl _) (Nat.le_refl _) ⟨rfl, ?_⟩
    rw [if_pos h]
/-- isCheaper, of two cables with prices -/
theorem z_isCheaper (hT : w.1.stackTraces = false) {pr : Nat → Nat} {a b : Nat} (ha : a < 24) (hb : b < 24) (h1 : I mx_now (51 + a) = nI (pr a)) (h2 : I mx_now (51 + b) = nI (pr b)) (l1 : pr a < 2 ^ 31) (l2 : pr b < 2 ^ 31) : ∃ r : Int32, ab_P w (d + 1) mt_M_isCheaper [.ref mx, .int (nI a), .int (nI b)] I L n nc ns r ∧ ((ch pr a b ∧ r = 1) ∨ (¬ ch pr a b ∧ r = 0)) := by
  have ea : (51 : Int32) + nI a = nI (51 + a) := nI_add 51 a
  have eb : (51 : Int32) + nI b = nI (51 + b) := nI_add 51 b
  have ca := nI_clamp (n := 51 + a) (by omega)
  have cb := nI_clamp (n := 51 + b) (by omega)
  have pa : ab_P w d mt_M_priceOf [.ref mx, .int (nI a)] I L n nc ns (nI (pr a)) := by
    have := z_priceOf (d := d) (n := n) (nc := nc) (ns := ns) (I := I) (L := L) hT (nI a) (by rw [ea]; exact vp_in_nI (by omega) (by omega))
    rw [ea, ca, h1] at this
    exact this
  have pb : ab_P w d mt_M_priceOf [.ref mx, .int (nI b)] I L n nc ns (nI (pr b)) := by
    have := z_priceOf (d := d) (n := n) (nc := nc) (ns := ns) (I := I) (L := L) hT (nI b) (by rw [eb]; exact vp_in_nI (by omega) (by omega))
    rw [eb, cb, h2] at this
    exact this
  by_cases hc : ch pr a b
  · refine ⟨1, ab_C_of (by decide) rfl (Nat.le_of_ble_eq_true rfl) hT ?_, Or.inl ⟨hc, rfl⟩⟩
    have yes : ab_E w (d + 1) mt_M_isCheaper 31 [.ref mx, .int (nI a), .int (nI b)] [] (I, L, ab_RR, n, nc, ns) (.inl (some (.int 1)), (I, L, ab_RR, n, nc, ns)) := q_M_isCheaper_31 _ _ (Nat.le_refl _) (Nat.le_refl _) (q_M_isCheaper_36 _ _ 1 (Nat.le_refl _) (Nat.le_refl _) ⟨rfl, rfl⟩)
    refine q_M_isCheaper_0 (nI a) (nI b) (Nat.le_refl _) (Nat.le_refl _) ⟨_, pa, _, pb, fun _ => yes, fun h => ⟨_, pa, _, pb, fun g => absurd ?_ g, fun _ => ⟨fun g => absurd g ?_, fun _ => yes⟩⟩⟩
    · have h' : ¬ pr a < pr b := fun g => h ((nI_ltI l1 l2).mpr g)
      rcases hc with hc | hc
      · exact absurd hc h'
      · rw [hc.1]
    · have h' : ¬ pr a < pr b := fun g => h ((nI_ltI l1 l2).mpr g)
      rcases hc with hc | hc
      · exact absurd hc h'
      · exact nI_ge hc.2 (by omega)
  · refine ⟨0, ab_C_of (by decide) rfl (Nat.le_of_ble_eq_true rfl) hT ?_, Or.inr ⟨hc, rfl⟩⟩
    have no : ab_E w (d + 1) mt_M_isCheaper 35 [.ref mx, .int (nI a), .int (nI b)] [] (I, L, ab_RR, n, nc, ns) (.inl (some (.int 0)), (I, L, ab_RR, n, nc, ns)) := q_M_isCheaper_35 _ _ (Nat.le_refl _) (Nat.le_refl _) (q_M_isCheaper_36 _ _ 0 (Nat.le_refl _) (Nat.le_refl _) ⟨rfl, rfl⟩)
    refine q_M_isCheaper_0 (nI a) (nI b) (Nat.le_refl _) (Nat.le_refl _) ⟨_, pa, _, pb, fun h => absurd ((nI_ltI l1 l2).mp h) (fun g => hc (Or.inl g)), fun h => ⟨_, pa, _, pb, fun _ => no, fun g => ⟨fun _ => no, fun k => absurd ?_ hc⟩⟩⟩
    have e : pr a = pr b := (nI_eq l1 l2).mp g
    have k' : ¬ b ≤ a := fun z => k (nI_le z (by omega))
    exact Or.inr ⟨e, by omega⟩
end MMO
