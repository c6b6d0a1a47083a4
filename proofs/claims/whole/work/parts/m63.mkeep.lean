/-! KEEP: the model -/
def akm (J I : Nat → Nat → Int32) : Prop := (∀ c, c ≠ mx_past → c ≠ mx → J c = I c) ∧ ∀ k, k ≠ 41 → J mx k = I mx k
section MKP
variable {w : ab_Wd} {d n nc ns : Nat} {I : Nat → Nat → Int32} {L : Nat → Nat → Int64}
theorem z_keep (hT : w.1.stackTraces = false) {m : Nat} {rr : Nat → Nat → Int32} (h : aM I m rr) : ∃ J, akm J I ∧ aM J (min (m + 1) 40) (aNx m rr (I mx_now)) ∧ ab_U w d mt_M_keep [.ref mx] I L n nc ns J := by
  obtain ⟨h1, h2, h3⟩ := h
  have copy : ∀ q, q < 40 → ∀ (rq : Nat → Nat → Int32) t i (K : Nat → Nat → Int32), i + t = 399 → akm K I → K mx 41 = nI q → (∀ a, a < q → ∀ j, j < 399 → K mx_past (399 * a + j) = rq a j) → (∀ j, j < i → K mx_past (399 * q + j) = I mx_now j) → ∃ J, akm J I ∧ aM J (q + 1) (fun a => if a < q then rq a else I mx_now) ∧ ab_E w d mt_M_keep 56 [.ref mx, .int (nI i)] [] (K, L, ab_RR, n, nc, ns) (.inl none, (J, L, ab_RR, n, nc, ns)) := by
    intro q hq rq t
    induction t with
    | zero =>
      intro i K hi k1 k2 k3 k4
      refine ⟨ab_up K mx 41 (K mx 41 + 1), ⟨fun c c1 c2 => by rw [ab_up_o c2]; exact k1.1 c c1 c2, fun k hk => by rw [ab_up_i, pk_un hk]; exact k1.2 k hk⟩, ⟨by rw [ab_up_i, pk_us, k2]; exact nI_1 _, by omega, fun a ha j hj => ?_⟩, ?_⟩
      · rw [ab_up_o (by decide)]
        by_cases e : a < q
        · have eq : (fun a => if a < q then rq a else I mx_now) a = rq a := if_pos e
          rw [eq]; exact k3 a e j hj
        · have ea : a = q := by omega
          subst ea
          have eq : (fun a' => if a' < a then rq a' else I mx_now) a = I mx_now := if_neg e
          rw [eq]; exact k4 j (by omega)
      · refine r_M_keep_56 hT _ (Nat.le_refl _) (Nat.le_refl _) ?_
        exact bb_t (nI_le (a := 399) (by omega) (by omega)) rfl
    | succ t ih =>
      intro i K hi k1 k2 k3 k4
      have en : K mx_now i = I mx_now i := by rw [k1.1 _ (by decide) (by decide)]
      obtain ⟨J, b1, b2, b3⟩ := ih (i + 1) (ab_up K mx_past (399 * q + i) (I mx_now i)) (by omega) ⟨fun c c1 c2 => by rw [ab_up_o c1]; exact k1.1 c c1 c2, fun k hk => by rw [ab_up_o (by decide)]; exact k1.2 k hk⟩ (by rw [ab_up_o (by decide)]; exact k2) (fun a ha j hj => by
        rw [ab_up_i, pk_un (by omega)]; exact k3 a ha j hj) (fun j hj => by
        rw [ab_up_i]
        by_cases e : j = i
        · rw [e, pk_us]
        · rw [pk_un (by omega)]; exact k4 j (by omega))
      refine ⟨J, b1, b2, ?_⟩
      refine r_M_keep_56 hT _ (Nat.le_refl _) (Nat.le_refl _) ?_
      rw [k2, nl_mul2, nI_add, nI_clamp (by omega), nI_clamp (by omega), en, nI_1 q, nI_1 i]
      exact bb_f (fun h => by have := (nI_leI (a := 399) (by omega) (by omega)).mp h; omega) ⟨vp_in_nI (by omega) (by omega), vp_in_nI (by omega) (by omega), b3⟩
  by_cases hm : m = 40
  · subst hm
    have shift : ∀ t i (K : Nat → Nat → Int32), i + t = 15561 → akm K I → K mx 41 = nI 40 → (∀ j, j < i → K mx_past j = I mx_past (j + 399)) → (∀ j, i ≤ j → K mx_past j = I mx_past j) → ∃ J, akm J I ∧ aM J 40 (fun a => if a < 39 then rr (a + 1) else I mx_now) ∧ ab_E w d mt_M_keep 13 [.ref mx, .int (nI (399 + i))] [] (K, L, ab_RR, n, nc, ns) (.inl none, (J, L, ab_RR, n, nc, ns)) := by
      intro t
      induction t with
      | zero =>
        intro i K hi k1 k2 k3 k4
        obtain ⟨J, b1, b2, b3⟩ := copy 39 (by omega) (fun a => rr (a + 1)) 399 0 (ab_up K mx 41 (K mx 41 - 1)) (by omega) ⟨fun c c1 c2 => by rw [ab_up_o c2]; exact k1.1 c c1 c2, fun k hk => by rw [ab_up_i, pk_un hk]; exact k1.2 k hk⟩ (by rw [ab_up_i, pk_us, k2]; decide) (fun a ha j hj => by
          rw [ab_up_o (by decide), k3 _ (by omega), show 399 * a + j + 399 = 399 * (a + 1) + j by omega]
          exact h3 (a + 1) (by omega) j hj) (fun j hj => absurd hj (Nat.not_lt_zero j))
        refine ⟨J, b1, b2, ?_⟩
        refine r_M_keep_13 hT _ (Nat.le_refl _) (Nat.le_refl _) ?_
        exact bb_t (nI_le (a := 15960) (by omega) (by omega)) b3
      | succ t ih =>
        intro i K hi k1 k2 k3 k4
        obtain ⟨J, b1, b2, b3⟩ := ih (i + 1) (ab_up K mx_past i (I mx_past (i + 399))) (by omega) ⟨fun c c1 c2 => by rw [ab_up_o c1]; exact k1.1 c c1 c2, fun k hk => by rw [ab_up_o (by decide)]; exact k1.2 k hk⟩ (by rw [ab_up_o (by decide)]; exact k2) (fun j hj => by
          rw [ab_up_i]
          by_cases e : j = i
          · rw [e, pk_us]
          · rw [pk_un e]; exact k3 j (by omega)) (fun j hj => by
          rw [ab_up_i, pk_un (by omega)]; exact k4 j (by omega))
        refine ⟨J, b1, b2, ?_⟩
        have es : nI (399 + i) - 399 = nI i := by
          rw [show (399 : Int32) = nI 399 from rfl, nI_sub (by omega), show 399 + i - 399 = i by omega]
        have er : K mx_past (399 + i) = I mx_past (i + 399) := by rw [k4 _ (by omega), Nat.add_comm]
        refine r_M_keep_13 hT _ (Nat.le_refl _) (Nat.le_refl _) ?_
        rw [es, nI_clamp (by omega), nI_clamp (by omega), er, nI_1]
        exact bb_f (fun h => by have := (nI_leI (a := 15960) (by omega) (by omega)).mp h; omega) ⟨vp_in_nI (by omega) (by omega), vp_in_nI (by omega) (by omega), b3⟩
    obtain ⟨J, b1, b2, b3⟩ := shift 15561 0 I (by omega) ⟨fun _ _ _ => rfl, fun _ _ => rfl⟩ h1 (fun j hj => absurd hj (Nat.not_lt_zero j)) (fun _ _ => rfl)
    refine ⟨J, b1, ?_, ?_⟩
    · unfold aNx; rw [if_pos rfl]; exact b2
    · refine ab_C_of (by decide) rfl (Nat.le_of_ble_eq_true rfl) hT ?_
      refine r_M_keep_0 hT (Nat.le_refl _) (Nat.le_refl _) ?_
      exact bb_t' h1 b3
  · obtain ⟨J, b1, b2, b3⟩ := copy m (by omega) rr 399 0 I (by omega) ⟨fun _ _ _ => rfl, fun _ _ => rfl⟩ h1 h3 (fun j hj => absurd hj (Nat.not_lt_zero j))
    refine ⟨J, b1, ?_, ?_⟩
    · unfold aNx; rw [if_neg hm, Nat.min_eq_left (by omega)]; exact b2
    · refine ab_C_of (by decide) rfl (Nat.le_of_ble_eq_true rfl) hT ?_
      refine r_M_keep_0 hT (Nat.le_refl _) (Nat.le_refl _) ?_
      refine bb_f' (fun h => hm ?_) b3
      rw [h1] at h
      exact (nI_eq (b := 40) (by omega) (by omega)).mp h
end MKP
