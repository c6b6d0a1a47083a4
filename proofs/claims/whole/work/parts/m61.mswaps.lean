/-! the model tells a swap -/
theorem bool_same : ∀ {a b : Bool}, false = (a && !b) → false = (b && !a) → a = b := by decide
section MSW
variable {w : ab_Wd} {d n nc ns : Nat} {I : Nat → Nat → Int32} {L : Nat → Nat → Int64}
variable {S N : Nat} {sd : Nat → Bool} {e1 e2 pr fm : Nat → Nat} {l : List Nat}
theorem z_tzX (hT : w.1.stackTraces = false) {x : Int32} (h : ∀ t, 24 ≤ t → t < 32 → bt x t = false) (h0 : ¬ x = 0) : ab_P w d mt_Integer_numberOfTrailingZeros [.int x] I L n nc ns (nI (lw (fun k => bt x k)) - 1) := by
  rcases low_ex h with e | ⟨t, t1, t2, t3⟩
  · exact absurd e h0
  · rw [lw_s t1 t2 t3, show (1 : Int32) = nI 1 from rfl, nI_sub (by omega)]
    exact z_tz hT t1 t2 t3
/-- what acts of the model leave as it is, but for its row -/
def mar (J I : Nat → Nat → Int32) : Prop := (∀ c, ¬ mscr c → c ≠ mx_now → J c = I c) ∧ ∀ k, mkf k → J mx k = I mx k
theorem mar_of {J : Nat → Nat → Int32} (h : mfr J I) : mar J I := ⟨fun c hc _ => h.1 c hc, h.2⟩
theorem mar_trans {K J : Nat → Nat → Int32} (h : mar K J) (g : mar J I) : mar K I := ⟨fun c h1 h2 => (h.1 c h1 h2).trans (g.1 c h1 h2), fun k hk => (h.2 k hk).trans (g.2 k hk)⟩
theorem mar_up {J : Nat → Nat → Int32} {k : Nat} {x : Int32} (h : mar J I) : mar (ab_up J mx_now k x) I := ⟨fun c h1 h2 => by rw [ab_up_o h2]; exact h.1 c h1 h2, fun j hj => by rw [ab_up_o (by decide)]; exact h.2 j hj⟩
theorem z_swaps (hT : w.1.stackTraces = false) (hm : mC I S N sd e1 e2 pr fm l) {v : Int32} {A : Nat → Bool} (hA : ∀ k, k < 32 → bt v k = A k) (hA24 : ∀ k, 24 ≤ k → A k = false) {E why k : Nat} (hE : I mx_now 2 = nI E) (hE9 : E < 2 ^ 30) :
    ∃ J, mar J I ∧ (((∀ j, A j = decide (j ∈ net e1 e2 sd l)) ∧ J mx_now = I mx_now) ∨ ((¬ ∀ j, A j = decide (j ∈ net e1 e2 sd l)) ∧ J mx_now 2 = nI (E + 1) ∧ (∀ q, q < 5 → J mx_now (99 + 5 * (E % 60) + q) = swV (swOf why k A (fun j => decide (j ∈ net e1 e2 sd l)) ((net e1 e2 sd l).map pr).sum) q) ∧ ∀ j, j ≠ 2 → (j < 99 + 5 * (E % 60) ∨ 99 + 5 * (E % 60) + 5 ≤ j) → J mx_now j = I mx_now j)) ∧ ab_U w (d + 4) mt_M_swaps [.ref mx, .int (nI why), .int (nI k), .int v] I L n nc ns J := by
  have p4 := hm.1.2.2.2.1
  obtain ⟨I2, r1, g1, g2, g3⟩ := z_netNow (d := d) (w := w) (n := n) (nc := nc) (ns := ns) (L := L) hT hm
  have f := mfr_nm g1
  generalize hB : (fun j => decide (j ∈ net e1 e2 sd l)) = B
  have hBb : ∀ j, j < 32 → bt r1 j = B j := fun j hj => by rw [← hB]; exact g2 j hj
  have hB24 : ∀ j, 24 ≤ j → B j = false := fun j hj => by
    rw [← hB]
    refine decide_eq_false (fun h => ?_)
    have := net_rlt hm.1 sd j (List.mem_reverse.mpr h)
    omega
  have tot : I2 mx 22 = nI ((net e1 e2 sd l).map pr).sum := g1.2.2.2.1
  have sE : I2 mx_now 2 = nI E := by rw [mfr_now f]; exact hE
  generalize ha : 99 + 5 * (E % 60) = a
  have ha9 : 99 ≤ a ∧ a + 5 ≤ 399 := by omega
  have ia : (99 + (5 * ((I2 mx_now 2) - (I2 mx_now 2) / 60 * 60))) = nI a := by
    rw [sE, show nI E - nI E / 60 * 60 = nI (E % 60) from nI_rem (b := 60) (by omega) (by omega), nl_mul2, nl_add2, ← ha]
  generalize ho : v &&& (r1 ^^^ (-1)) = ou
  generalize hi : r1 &&& (v ^^^ (-1)) = inn
  have bo : ∀ j, j < 32 → bt ou j = (A j && !B j) := fun j hj => by rw [← ho, b_and, hA j hj, ab_bnot _ hj, hBb j hj]
  have bi : ∀ j, j < 32 → bt inn j = (B j && !A j) := fun j hj => by rw [← hi, b_and, hBb j hj, ab_bnot _ hj, hA j hj]
  have eo : lw (fun k => bt ou k) = lw (fun j => A j && !B j) := lw_cong (fun j hj => bo j (by omega))
  have ei : lw (fun k => bt inn k) = lw (fun j => B j && !A j) := lw_cong (fun j hj => bi j (by omega))
  have ho24 : ∀ t, 24 ≤ t → t < 32 → bt ou t = false := fun t h1 h2 => by rw [bo t h2, hA24 t h1]; rfl
  have hi24 : ∀ t, 24 ≤ t → t < 32 → bt inn t = false := fun t h1 h2 => by rw [bi t h2, hB24 t h1]; rfl
  have z0 : ∀ j, j < 32 → bt (0 : Int32) j = false := fun j hj => by
    have : ∀ j : Fin 32, bt (0 : Int32) j.1 = false := by decide
    exact this ⟨j, hj⟩
  have zo : ou = 0 → lw (fun j => A j && !B j) = 0 := fun h => lw_0 (fun j hj => by rw [← bo j (by omega), h]; exact z0 j (by omega))
  have zi : inn = 0 → lw (fun j => B j && !A j) = 0 := fun h => lw_0 (fun j hj => by rw [← bi j (by omega), h]; exact z0 j (by omega))
  have tzo : ¬ ou = 0 → ∀ K : Nat → Nat → Int32, ab_P w (d + 3) mt_Integer_numberOfTrailingZeros [.int ou] K L n nc ns (nI (lw (fun j => A j && !B j)) - 1) := fun h K => by
    rw [← eo]; exact z_tzX hT ho24 h
  have tzi : ¬ inn = 0 → ∀ K : Nat → Nat → Int32, ab_P w (d + 3) mt_Integer_numberOfTrailingZeros [.int inn] K L n nc ns (nI (lw (fun j => B j && !A j)) - 1) := fun h K => by
    rw [← ei]; exact z_tzX hT hi24 h
  by_cases hs : ou = 0 ∧ inn = 0
  · refine ⟨I2, mar_of f, Or.inl ⟨fun j => ?_, mfr_now f⟩, ?_⟩
    · have hAB : A j = B j := by
        by_cases hj : j < 32
        · have u1 := bo j hj
          have u2 := bi j hj
          rw [hs.1, z0 j hj] at u1
          rw [hs.2, z0 j hj] at u2
          exact bool_same u1 u2
        · rw [hA24 j (by omega), hB24 j (by omega)]
      rw [hAB, ← hB]
    · refine ab_C_of (by decide) rfl (Nat.le_of_ble_eq_true rfl) hT ?_
      refine r_M_swaps_0 hT _ _ _ (Nat.le_refl _) (Nat.le_refl _) ?_
      refine ⟨r1, I2, g3, ?_⟩
      rw [ho, hi]
      exact bb_t' hs.1 (bb_t' hs.2 rfl)
  · have mem : ∀ x y : Int32, x = nI (lw (fun j => A j && !B j)) - 1 → y = nI (lw (fun j => B j && !A j)) - 1 → ∀ M5 : Nat → Nat → Int32, M5 = ab_up (ab_up (ab_up (ab_up (ab_up I2 mx_now a (nI why)) mx_now (a + 1) (nI k)) mx_now (a + 2) x) mx_now (a + 3) y) mx_now (a + 4) (I2 mx 22) → mar (ab_up M5 mx_now 2 (M5 mx_now 2 + 1)) I ∧ (((∀ j, A j = decide (j ∈ net e1 e2 sd l)) ∧ (ab_up M5 mx_now 2 (M5 mx_now 2 + 1)) mx_now = I mx_now) ∨ ((¬ ∀ j, A j = decide (j ∈ net e1 e2 sd l)) ∧ (ab_up M5 mx_now 2 (M5 mx_now 2 + 1)) mx_now 2 = nI (E + 1) ∧ (∀ q, q < 5 → (ab_up M5 mx_now 2 (M5 mx_now 2 + 1)) mx_now (a + q) = swV (swOf why k A B ((net e1 e2 sd l).map pr).sum) q) ∧ ∀ j, j ≠ 2 → (j < a ∨ a + 5 ≤ j) → (ab_up M5 mx_now 2 (M5 mx_now 2 + 1)) mx_now j = I mx_now j)) := by
      intro x y hx hy M5 hM
      have r2 : M5 mx_now 2 = nI E := by
        rw [hM, ab_up_i, pk_un (by omega), ab_up_i, pk_un (by omega), ab_up_i, pk_un (by omega), ab_up_i, pk_un (by omega), ab_up_i, pk_un (by omega)]; exact sE
      refine ⟨?_, Or.inr ⟨fun h => hs ⟨b_ext fun j hj => ?_, b_ext fun j hj => ?_⟩, by rw [ab_up_i, pk_us, r2]; exact nI_1 _, fun q hq => ?_, fun j h1 h2 => ?_⟩⟩
      · rw [hM]
        exact mar_up (mar_up (mar_up (mar_up (mar_up (mar_up (mar_of f))))))
      · have e : A j = B j := by rw [← hB]; exact h j
        rw [bo j hj, z0 j hj, e]; cases B j <;> rfl
      · have e : A j = B j := by rw [← hB]; exact h j
        rw [bi j hj, z0 j hj, e]; cases B j <;> rfl
      · rw [ab_up_i, pk_un (by omega), hM]
        have hq : q = 0 ∨ q = 1 ∨ q = 2 ∨ q = 3 ∨ q = 4 := by omega
        rcases hq with e | e | e | e | e <;> subst e
        · rw [ab_up_i, pk_un (by omega), ab_up_i, pk_un (by omega), ab_up_i, pk_un (by omega), ab_up_i, pk_un (by omega), ab_up_i]
          show upd _ a _ a = _
          rw [pk_us]; rfl
        · rw [ab_up_i, pk_un (by omega), ab_up_i, pk_un (by omega), ab_up_i, pk_un (by omega), ab_up_i, pk_us]; rfl
        · rw [ab_up_i, pk_un (by omega), ab_up_i, pk_un (by omega), ab_up_i, pk_us, hx]; rfl
        · rw [ab_up_i, pk_un (by omega), ab_up_i, pk_us, hy]; rfl
        · rw [ab_up_i, pk_us, tot]; rfl
      · rw [ab_up_i, pk_un h1, hM, ab_up_i, pk_un (by omega), ab_up_i, pk_un (by omega), ab_up_i, pk_un (by omega), ab_up_i, pk_un (by omega), ab_up_i, pk_un (by omega), mfr_now f]
    have n0 : vp_in (nI a) 399 := vp_in_nI (by omega) (by omega)
    have n1 : vp_in (nI (a + 1)) 399 := vp_in_nI (by omega) (by omega)
    have n2 : vp_in (nI (a + 2)) 399 := vp_in_nI (by omega) (by omega)
    have n3 : vp_in (nI (a + 3)) 399 := vp_in_nI (by omega) (by omega)
    have n4 : vp_in (nI (a + 4)) 399 := vp_in_nI (by omega) (by omega)
    by_cases h1 : ou = 0
    · have h2 : ¬ inn = 0 := fun h2 => hs ⟨h1, h2⟩
      obtain ⟨u1, u2⟩ := mem (-1) _ (by rw [zo h1]; rfl) rfl _ rfl
      refine ⟨_, u1, u2, ?_⟩
      refine ab_C_of (by decide) rfl (Nat.le_of_ble_eq_true rfl) hT ?_
      refine r_M_swaps_0 hT _ _ _ (Nat.le_refl _) (Nat.le_refl _) ?_
      refine ⟨r1, I2, g3, ?_⟩
      simp (disch := omega) only [ho, hi, ia, nl_add1, nI_clamp]
      exact bb_t' h1 (bb_f' h2 ⟨n0, n1, bb_t' h1 ⟨n2, bb_f' h2 ⟨_, tzi h2 _, n3, n4, rfl⟩⟩⟩)
    · by_cases h2 : inn = 0
      · obtain ⟨u1, u2⟩ := mem _ (-1) rfl (by rw [zi h2]; rfl) _ rfl
        refine ⟨_, u1, u2, ?_⟩
        refine ab_C_of (by decide) rfl (Nat.le_of_ble_eq_true rfl) hT ?_
        refine r_M_swaps_0 hT _ _ _ (Nat.le_refl _) (Nat.le_refl _) ?_
        refine ⟨r1, I2, g3, ?_⟩
        simp (disch := omega) only [ho, hi, ia, nl_add1, nI_clamp]
        exact bb_f' h1 ⟨n0, n1, bb_f' h1 ⟨_, tzo h1 _, n2, bb_t' h2 ⟨n3, n4, rfl⟩⟩⟩
      · obtain ⟨u1, u2⟩ := mem _ _ rfl rfl _ rfl
        refine ⟨_, u1, u2, ?_⟩
        refine ab_C_of (by decide) rfl (Nat.le_of_ble_eq_true rfl) hT ?_
        refine r_M_swaps_0 hT _ _ _ (Nat.le_refl _) (Nat.le_refl _) ?_
        refine ⟨r1, I2, g3, ?_⟩
        simp (disch := omega) only [ho, hi, ia, nl_add1, nI_clamp]
        exact bb_f' h1 ⟨n0, n1, bb_f' h1 ⟨_, tzo h1 _, n2, bb_f' h2 ⟨_, tzi h2 _, n3, n4, rfl⟩⟩⟩
end MSW
