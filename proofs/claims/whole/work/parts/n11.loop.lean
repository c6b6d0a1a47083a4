/-! THE LAW'S LOOP -/
section LLP
variable {w : ab_Wd} {d n nc ns : Nat} {I : Nat → Nat → Int32} {L : Nat → Nat → Int64}
variable {T : Nat}
theorem s_none {v4 : Int32} (g : RR I T) : stp w d 1658 v4 I L nc ns T := ⟨I, L, nc, ns, RR_q (Nat.le_succ T) kfr_refl mgr_refl g, Nat.le_refl _, Nat.le_succ _, Nat.le_refl _, Nat.le_add_right _ _, fun _ _ _ k => k⟩
theorem end_lt {n T : Nat} (hn : n ≤ 3072) (hT : T ≤ 512) : nI n - 6 < nI (6 * T) ↔ n < 6 * T + 6 := by
  rw [Int32.lt_iff_toInt_lt]
  by_cases h : 6 ≤ n
  · rw [show (6 : Int32) = nI 6 from rfl, nI_sub h, ← Int32.lt_iff_toInt_lt, nI_ltI (by omega) (by omega)]
    omega
  · have h6 : n = 0 ∨ n = 1 ∨ n = 2 ∨ n = 3 ∨ n = 4 ∨ n = 5 := by omega
    have e : (nI n - 6).toInt < 0 := by rcases h6 with e | e | e | e | e | e <;> subst e <;> decide
    have e2 : (nI (6 * T)).toInt = ((6 * T : Nat) : Int) := nI_toInt (by omega)
    rw [e2]
    omega
theorem l_turn (hT : w.1.stackTraces = false) (hL : w.2.2.2.2.1 ≤ 3072) (g : RR I T) (hlt : 6 * T + 5 < w.2.2.2.2.1) : ∃ pc, stp w d pc (nI (6 * T)) I L nc ns T ∧ ∀ res : ab_Re, nc ≤ res.2.2.2.2.2.1 → ns ≤ res.2.2.2.2.2.2 → ab_E w (d + 18) mt_W_law pc [.ref 34, .ref kx, .ref mx, .ref ox_out, .int (nI (6 * T)), .null, .null] [] (I, L, ab_RR, 91, nc, ns) res → ab_E w (d + 18) mt_W_law 23 [.ref 34, .ref kx, .ref mx, .ref ox_out, .int (nI (6 * T)), .null, .null] [] (I, L, ab_RR, 91, nc, ns) res := by
  have hT9 : T ≤ 1000 := by omega
  have hno : ¬ nI w.2.2.2.2.1 - 6 < nI (6 * T) := fun h => by have := (end_lt hL (by omega)).mp h; omega
  have pin : ∀ j, j < 6 → vp_in (nI (6 * T + j)) w.2.2.2.2.1 := fun j hj => vp_in_nI (by omega) (by omega)
  have hp : scr w (nI (6 * T)) := by
    unfold scr
    rw [show (nI (6 * T) + 1 : Int32) = nI (6 * T + 1) from nI_add _ _]
    rw [show (nI (6 * T) + 2 : Int32) = nI (6 * T + 2) from nI_add _ _]
    rw [show (nI (6 * T) + 3 : Int32) = nI (6 * T + 3) from nI_add _ _]
    rw [show (nI (6 * T) + 4 : Int32) = nI (6 * T + 4) from nI_add _ _]
    rw [show (nI (6 * T) + 5 : Int32) = nI (6 * T + 5) from nI_add _ _]
    exact ⟨pin 1 (by omega), pin 2 (by omega), pin 3 (by omega), pin 4 (by omega), pin 5 (by omega)⟩
  have row := fun (res : ab_Re) (hc : nc ≤ res.2.2.2.2.2.1) (hs : ns ≤ res.2.2.2.2.2.2) => q_W_law_23 (w := w) (d := d + 17) (n := 91) (I := I) (L := L) (nI (6 * T)) hc hs
  have p0 : vp_in (nI (6 * T)) w.2.2.2.2.1 := pin 0 (by omega)
  revert row
  rcases v_cases ((w.2.2.2.2.2.1 (nI (6 * T)).toNatClampNeg) &&& 31) 29 (by decide) with ⟨i, hi, e⟩ | hout
  · rw [e]
    intro row
    have hi : i = 0 ∨ i = 1 ∨ i = 2 ∨ i = 3 ∨ i = 4 ∨ i = 5 ∨ i = 6 ∨ i = 7 ∨ i = 8 ∨ i = 9 ∨ i = 10 ∨ i = 11 ∨ i = 12 ∨ i = 13 ∨ i = 14 ∨ i = 15 ∨ i = 16 ∨ i = 17 ∨ i = 18 ∨ i = 19 ∨ i = 20 ∨ i = 21 ∨ i = 22 ∨ i = 23 ∨ i = 24 ∨ i = 25 ∨ i = 26 ∨ i = 27 ∨ i = 28 ∨ i = 29 := by omega
    rcases hi with e9 | e9 | e9 | e9 | e9 | e9 | e9 | e9 | e9 | e9 | e9 | e9 | e9 | e9 | e9 | e9 | e9 | e9 | e9 | e9 | e9 | e9 | e9 | e9 | e9 | e9 | e9 | e9 | e9 | e9 <;> subst e9
    · refine ⟨176, s_feed hT g hT9 hp, fun res hc hs k => row res hc hs ⟨fun h => absurd h hno, fun _ => ⟨p0, ?_⟩⟩⟩
      (and_intros <;> intro h <;> first | exact absurd h (by decide) | exact k)
    · refine ⟨249, s_net hT g hp, fun res hc hs k => row res hc hs ⟨fun h => absurd h hno, fun _ => ⟨p0, ?_⟩⟩⟩
      (and_intros <;> intro h <;> first | exact absurd h (by decide) | exact k)
    · refine ⟨305, s_fault hT g, fun res hc hs k => row res hc hs ⟨fun h => absurd h hno, fun _ => ⟨p0, ?_⟩⟩⟩
      (and_intros <;> intro h <;> first | exact absurd h (by decide) | exact k)
    · refine ⟨318, s_count hT g hT9 hp, fun res hc hs k => row res hc hs ⟨fun h => absurd h hno, fun _ => ⟨p0, ?_⟩⟩⟩
      (and_intros <;> intro h <;> first | exact absurd h (by decide) | exact k)
    · refine ⟨374, s_cable hT g hT9 hp, fun res hc hs k => row res hc hs ⟨fun h => absurd h hno, fun _ => ⟨p0, ?_⟩⟩⟩
      (and_intros <;> intro h <;> first | exact absurd h (by decide) | exact k)
    · refine ⟨442, s_ring hT g hT9 hp, fun res hc hs k => row res hc hs ⟨fun h => absurd h hno, fun _ => ⟨p0, ?_⟩⟩⟩
      (and_intros <;> intro h <;> first | exact absurd h (by decide) | exact k)
    · refine ⟨510, s_taken hT g hT9 hp, fun res hc hs k => row res hc hs ⟨fun h => absurd h hno, fun _ => ⟨p0, ?_⟩⟩⟩
      (and_intros <;> intro h <;> first | exact absurd h (by decide) | exact k)
    · refine ⟨566, s_site hT g hT9 hp, fun res hc hs k => row res hc hs ⟨fun h => absurd h hno, fun _ => ⟨p0, ?_⟩⟩⟩
      (and_intros <;> intro h <;> first | exact absurd h (by decide) | exact k)
    · refine ⟨634, s_way hT g hT9 hp, fun res hc hs k => row res hc hs ⟨fun h => absurd h hno, fun _ => ⟨p0, ?_⟩⟩⟩
      (and_intros <;> intro h <;> first | exact absurd h (by decide) | exact k)
    · refine ⟨714, s_firm hT g hT9 hp, fun res hc hs k => row res hc hs ⟨fun h => absurd h hno, fun _ => ⟨p0, ?_⟩⟩⟩
      (and_intros <;> intro h <;> first | exact absurd h (by decide) | exact k)
    · refine ⟨782, s_share hT g hT9 hp, fun res hc hs k => row res hc hs ⟨fun h => absurd h hno, fun _ => ⟨p0, ?_⟩⟩⟩
      (and_intros <;> intro h <;> first | exact absurd h (by decide) | exact k)
    · refine ⟨838, s_group hT g hT9 hp, fun res hc hs k => row res hc hs ⟨fun h => absurd h hno, fun _ => ⟨p0, ?_⟩⟩⟩
      (and_intros <;> intro h <;> first | exact absurd h (by decide) | exact k)
    · refine ⟨906, s_without hT g hT9 hp, fun res hc hs k => row res hc hs ⟨fun h => absurd h hno, fun _ => ⟨p0, ?_⟩⟩⟩
      (and_intros <;> intro h <;> first | exact absurd h (by decide) | exact k)
    · refine ⟨974, s_alike hT g hT9, fun res hc hs k => row res hc hs ⟨fun h => absurd h hno, fun _ => ⟨p0, ?_⟩⟩⟩
      (and_intros <;> intro h <;> first | exact absurd h (by decide) | exact k)
    · refine ⟨988, s_told hT g hT9 hp, fun res hc hs k => row res hc hs ⟨fun h => absurd h hno, fun _ => ⟨p0, ?_⟩⟩⟩
      (and_intros <;> intro h <;> first | exact absurd h (by decide) | exact k)
    · refine ⟨1044, s_joined hT g hT9 hp, fun res hc hs k => row res hc hs ⟨fun h => absurd h hno, fun _ => ⟨p0, ?_⟩⟩⟩
      (and_intros <;> intro h <;> first | exact absurd h (by decide) | exact k)
    · refine ⟨1100, s_swap hT g hT9 hp, fun res hc hs k => row res hc hs ⟨fun h => absurd h hno, fun _ => ⟨p0, ?_⟩⟩⟩
      (and_intros <;> intro h <;> first | exact absurd h (by decide) | exact k)
    · refine ⟨1168, s_price hT g hT9 hp, fun res hc hs k => row res hc hs ⟨fun h => absurd h hno, fun _ => ⟨p0, ?_⟩⟩⟩
      (and_intros <;> intro h <;> first | exact absurd h (by decide) | exact k)
    · refine ⟨1205, s_all hT g hT9 hp, fun res hc hs k => row res hc hs ⟨fun h => absurd h hno, fun _ => ⟨p0, ?_⟩⟩⟩
      (and_intros <;> intro h <;> first | exact absurd h (by decide) | exact k)
    · refine ⟨1242, s_breaks hT g hT9 hp, fun res hc hs k => row res hc hs ⟨fun h => absurd h hno, fun _ => ⟨p0, ?_⟩⟩⟩
      (and_intros <;> intro h <;> first | exact absurd h (by decide) | exact k)
    · refine ⟨1267, s_mend hT g hT9 hp, fun res hc hs k => row res hc hs ⟨fun h => absurd h hno, fun _ => ⟨p0, ?_⟩⟩⟩
      (and_intros <;> intro h <;> first | exact absurd h (by decide) | exact k)
    · refine ⟨1292, s_lay hT g hT9 hp, fun res hc hs k => row res hc hs ⟨fun h => absurd h hno, fun _ => ⟨p0, ?_⟩⟩⟩
      (and_intros <;> intro h <;> first | exact absurd h (by decide) | exact k)
    · refine ⟨1353, s_undo hT g hT9 hp, fun res hc hs k => row res hc hs ⟨fun h => absurd h hno, fun _ => ⟨p0, ?_⟩⟩⟩
      (and_intros <;> intro h <;> first | exact absurd h (by decide) | exact k)
    · refine ⟨1366, s_note hT g hp, fun res hc hs k => row res hc hs ⟨fun h => absurd h hno, fun _ => ⟨p0, ?_⟩⟩⟩
      (and_intros <;> intro h <;> first | exact absurd h (by decide) | exact k)
    · refine ⟨1419, s_fits hT g hT9 hp, fun res hc hs k => row res hc hs ⟨fun h => absurd h hno, fun _ => ⟨p0, ?_⟩⟩⟩
      (and_intros <;> intro h <;> first | exact absurd h (by decide) | exact k)
    · refine ⟨1487, s_look hT g hT9 hp, fun res hc hs k => row res hc hs ⟨fun h => absurd h hno, fun _ => ⟨p0, ?_⟩⟩⟩
      (and_intros <;> intro h <;> first | exact absurd h (by decide) | exact k)
    · refine ⟨1543, s_forget hT g, fun res hc hs k => row res hc hs ⟨fun h => absurd h hno, fun _ => ⟨p0, ?_⟩⟩⟩
      (and_intros <;> intro h <;> first | exact absurd h (by decide) | exact k)
    · refine ⟨1554, s_years hT g hT9 hp, fun res hc hs k => row res hc hs ⟨fun h => absurd h hno, fun _ => ⟨p0, ?_⟩⟩⟩
      (and_intros <;> intro h <;> first | exact absurd h (by decide) | exact k)
    · refine ⟨1634, s_image hT g, fun res hc hs k => row res hc hs ⟨fun h => absurd h hno, fun _ => ⟨p0, ?_⟩⟩⟩
      (and_intros <;> intro h <;> first | exact absurd h (by decide) | exact k)
    · refine ⟨1645, s_restore hT g hT9 hp, fun res hc hs k => row res hc hs ⟨fun h => absurd h hno, fun _ => ⟨p0, ?_⟩⟩⟩
      (and_intros <;> intro h <;> first | exact absurd h (by decide) | exact k)
  · intro row
    refine ⟨1658, s_none g, fun res hc hs k => row res hc hs ⟨fun h => absurd h hno, fun _ => ⟨p0, ?_⟩⟩⟩
    generalize (w.2.2.2.2.2.1 (nI (6 * T)).toNatClampNeg) &&& 31 = x at hout ⊢
    (and_intros <;> intro h <;> first | exact k | (subst h; exact absurd hout (by decide)))
theorem l_loop (hT : w.1.stackTraces = false) (hL : w.2.2.2.2.1 ≤ 3072) : ∀ (k T : Nat) (I : Nat → Nat → Int32) (L : Nat → Nat → Int64) (nc ns : Nat), T + k ≤ 512 → w.2.2.2.2.1 < 6 * T + 6 * k + 6 → RR I T → ∃ (K : Nat → Nat → Int32) (L' : Nat → Nat → Int64) (nc' ns' : Nat), nc ≤ nc' ∧ nc' ≤ nc + k ∧ ns ≤ ns' ∧ ns' ≤ ns + 9 * k ∧ ab_E w (d + 18) mt_W_law 23 [.ref 34, .ref kx, .ref mx, .ref ox_out, .int (nI (6 * T)), .null, .null] [] (I, L, ab_RR, 91, nc, ns) (.inl (some (.int 1)), (K, L', ab_RR, 91, nc', ns')) := by
  intro k
  induction k with
  | zero =>
    intro T I L nc ns hk hl g
    exact ⟨I, L, nc, ns, Nat.le_refl _, Nat.le_refl _, Nat.le_refl _, Nat.le_refl _, q_W_law_23 _ (Nat.le_refl _) (Nat.le_refl _) ⟨fun _ => rfl, fun h => absurd ((end_lt hL (by omega)).mpr (by omega)) h⟩⟩
  | succ k ih =>
    intro T I L nc ns hk hl g
    by_cases hlt : 6 * T + 5 < w.2.2.2.2.1
    · obtain ⟨pc, ⟨K, L1, nc1, ns1, g1, a1, a2, a3, a4, st⟩, go⟩ := l_turn (d := d) (L := L) (nc := nc) (ns := ns) hT hL g hlt
      obtain ⟨K2, L2, nc2, ns2, b1, b2, b3, b4, u⟩ := ih (T + 1) K L1 nc1 ns1 (by omega) (by omega) g1
      refine ⟨K2, L2, nc2, ns2, by omega, by omega, by omega, by omega, go _ (Nat.le_trans a1 b1) (Nat.le_trans a3 b3) (st _ b1 b3 (q_W_law_1658 _ b1 b3 ?_))⟩
      rw [show (nI (6 * T) + 6 : Int32) = nI (6 * (T + 1)) from nI_add _ _]
      exact u
    · exact ⟨I, L, nc, ns, Nat.le_refl _, Nat.le_add_right _ _, Nat.le_refl _, Nat.le_add_right _ _, q_W_law_23 _ (Nat.le_refl _) (Nat.le_refl _) ⟨fun _ => rfl, fun h => absurd ((end_lt hL (by omega)).mpr (by omega)) h⟩⟩
end LLP
