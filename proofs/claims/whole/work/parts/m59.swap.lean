/-! SWAPS: rows of one number, and rows of five -/
theorem nI_div {a b : Nat} (ha : a < 2 ^ 31) (hb : b < 2 ^ 31) : nI a / nI b = nI (a / b) := by
  have h1 : a / b ≤ a := Nat.div_le_self a b
  apply Int32.toInt_inj.mp
  rw [Int32.toInt_div_of_ne_right _ _ (nI_m1 hb), nI_toInt ha, nI_toInt hb, nI_toInt (by omega), Int.ofNat_tdiv]
theorem nI_rem {a b : Nat} (ha : a < 2 ^ 31) (hb : b < 2 ^ 31) : nI a - nI a / nI b * nI b = nI (a % b) := by
  rw [nI_div ha hb, nI_mul, nI_sub (Nat.div_mul_le_self a b)]
  refine congrArg nI ?_
  have := Nat.div_add_mod a b
  rw [Nat.mul_comm] at this
  omega
theorem bt_nIw {a : Nat} (ha : a < 2 ^ 32) (i : Nat) : bt (nI a) i = a.testBit i := by
  by_cases h : i < 32
  · exact bt_nI a h
  · have h1 : a.testBit i = false := Nat.testBit_lt_two_pow (Nat.lt_of_lt_of_le ha (Nat.pow_le_pow_right (by decide) (by omega)))
    rw [h1]
    unfold bt
    exact BitVec.getLsbD_of_ge _ _ (by omega)
theorem nI_ushr {a k : Nat} (ha : a < 2 ^ 32) (hk : k < 32) : ab_ushr (nI a) (nI k) = nI (a / 2 ^ k) := by
  have h1 : a / 2 ^ k < 2 ^ 32 := Nat.lt_of_le_of_lt (Nat.div_le_self _ _) ha
  refine b_ext fun i hi => ?_
  unfold ab_ushr
  rw [b_ushr k hk, bt_nIw ha, bt_nIw h1, Nat.testBit_div_two_pow]
  rw [Nat.add_comm]
theorem nI_andm {a k : Nat} (ha : a < 2 ^ 32) (hk : k < 31) : nI a &&& nI (2 ^ k - 1) = nI (a % 2 ^ k) := by
  have h1 : a % 2 ^ k < 2 ^ 32 := Nat.lt_of_le_of_lt (Nat.mod_le _ _) ha
  have h2 : 2 ^ k - 1 < 2 ^ 32 := by
    have := Nat.pow_le_pow_right (show 2 > 0 by decide) (show k ≤ 31 by omega)
    omega
  refine b_ext fun i hi => ?_
  rw [b_and, bt_nIw ha, bt_nIw h1, bt_nIw h2, Nat.testBit_two_pow_sub_one, Nat.testBit_mod_two_pow, Bool.and_comm]
/-- a swap: why, cable, out (and one), in (and one), total -/
def swB (h : Nat → Nat) : Prop := h 0 < 8 ∧ h 1 < 32 ∧ h 2 < 32 ∧ h 3 < 32 ∧ h 4 < 16384
def swK (h : Nat → Nat) : Nat := h 4 * 262144 + (h 0 * 32768 + (h 1 * 1024 + (h 2 * 32 + h 3)))
def swV (h : Nat → Nat) (q : Nat) : Int32 := if q = 2 ∨ q = 3 then nI (h q) - 1 else nI (h q)
/-- the shown swaps, on both sides -/
def hR (I : Nat → Nat → Int32) (E : Nat) (h : Nat → Nat → Nat) : Prop := I kx_now_swaps 1 = nI E ∧ I mx_now 2 = nI E ∧ E < 2 ^ 30 ∧ ∀ j, j < E → E ≤ j + 60 → swB (h j) ∧ I kx_now_swaps_rows (j % 1024) = nI (swK (h j)) ∧ ∀ q, q < 5 → I mx_now (99 + 5 * (j % 60) + q) = swV (h j) q
section JSW
variable {w : ab_Wd} {d n nc ns : Nat} {I : Nat → Nat → Int32} {L : Nat → Nat → Int64}
variable {S N : Nat} {sd : Nat → Bool} {e1 e2 pr fm : Nat → Nat} {l : List Nat}
theorem sw_unp {h : Nat → Nat} (hb : swB h) : ab_ushr (nI (swK h)) 15 &&& 7 = nI (h 0) ∧ ab_ushr (nI (swK h)) 10 &&& 31 = nI (h 1) ∧ ab_ushr (nI (swK h)) 5 &&& 31 = nI (h 2) ∧ nI (swK h) &&& 31 = nI (h 3) ∧ ab_ushr (nI (swK h)) 18 = nI (h 4) := by
  obtain ⟨b0, b1, b2, b3, b4⟩ := hb
  have hK : swK h < 2 ^ 32 := by unfold swK; omega
  have u15 := nI_ushr (k := 15) hK (by omega)
  have u10 := nI_ushr (k := 10) hK (by omega)
  have u5 := nI_ushr (k := 5) hK (by omega)
  have u18 := nI_ushr (k := 18) hK (by omega)
  have q15 : swK h / 2 ^ 15 < 2 ^ 32 := Nat.lt_of_le_of_lt (Nat.div_le_self _ _) hK
  have q10 : swK h / 2 ^ 10 < 2 ^ 32 := Nat.lt_of_le_of_lt (Nat.div_le_self _ _) hK
  have q5 : swK h / 2 ^ 5 < 2 ^ 32 := Nat.lt_of_le_of_lt (Nat.div_le_self _ _) hK
  refine ⟨?_, ?_, ?_, ?_, ?_⟩
  · refine (congrArg (fun x => x &&& 7) u15).trans ((nI_andm (k := 3) q15 (by omega)).trans (congrArg nI ?_))
    unfold swK; omega
  · refine (congrArg (fun x => x &&& 31) u10).trans ((nI_andm (k := 5) q10 (by omega)).trans (congrArg nI ?_))
    unfold swK; omega
  · refine (congrArg (fun x => x &&& 31) u5).trans ((nI_andm (k := 5) q5 (by omega)).trans (congrArg nI ?_))
    unfold swK; omega
  · refine (nI_andm (k := 5) hK (by omega)).trans (congrArg nI ?_)
    unfold swK; omega
  · refine u18.trans (congrArg nI ?_)
    unfold swK; omega
theorem j_swap (hT : w.1.stackTraces = false) {E : Nat} {h : Nat → Nat → Nat} (hH : hR I E h) (v u : Int32) : qOk w (d + 16) mt_K_swap mt_M_swap [.int v, .int u] I L n nc ns I ∨ qNo w (d + 16) mt_K_swap mt_M_swap [.int v, .int u] I L n nc ns I "java/util/NoSuchElementException" 1 := by
  obtain ⟨s1, s2, s3, s4⟩ := hH
  have m1 : ab_min32 (I kx_now_swaps 1) 60 = nI (min E 60) := by rw [s1, show (60 : Int32) = nI 60 from rfl, ab_min_nI (by omega) (by omega)]
  have m2 : ab_min32 60 (I mx_now 2) = nI (min E 60) := by rw [s2, show (60 : Int32) = nI 60 from rfl, ab_min_nI (by omega) (by omega), Nat.min_comm]
  rcases v_rng v (min E 60) (by omega) with ⟨a, ha, e⟩ | hbad
  · subst e
    obtain ⟨a1, a2, a3, a4⟩ := v_rg1 ha (by omega)
    obtain ⟨w1, w2, w3⟩ := s4 (E - 1 - a) (by omega) (by omega)
    obtain ⟨x0, x1, x2, x3, x4⟩ := sw_unp w1
    have ix : (((I kx_now_swaps 1) - 1) - nI a) &&& 1023 = nI ((E - 1 - a) % 1024) := by
      rw [s1, show (1 : Int32) = nI 1 from rfl, nI_sub (by omega), nI_sub (by omega)]
      exact nI_andm (k := 10) (by omega) (by omega)
    have im : ((((I mx_now 2) - 1) - nI a) - (((I mx_now 2) - 1) - nI a) / 60 * 60) = nI ((E - 1 - a) % 60) := by
      rw [s2, show (1 : Int32) = nI 1 from rfl, nI_sub (by omega), nI_sub (by omega)]
      exact nI_rem (b := 60) (by omega) (by omega)
    rcases v_cs u 4 (by decide) with ⟨i, hi, e, g1, g2⟩ | ⟨hout, hout2⟩
    · subst e
      left
      refine ⟨kfr_refl, swV (h (E - 1 - a)) i, ?_, fun L n nc ns => ⟨_, mgr_0.1, mgr_0.2, ?_⟩⟩
      · refine ab_C_of (by decide) rfl (Nat.le_of_ble_eq_true rfl) hT ?_
        refine r_K_swap_0 hT _ _ (by omega) (Nat.le_refl _) (Nat.le_refl _) ?_
        refine bb_f a1 (bb_t (by rw [m1]; exact a4) ?_)
        rw [ix, nI_clamp (by omega), w2, x0, x1, x2, x3, x4]
        refine ⟨vp_in_nI (by omega) (by omega), ?_⟩
        have hi : i = 0 ∨ i = 1 ∨ i = 2 ∨ i = 3 ∨ i = 4 := by omega
        rcases hi with e | e | e | e | e <;> subst e
        · (and_intros <;> intro h <;> first | exact absurd h (by decide) | exact rfl)
        · (and_intros <;> intro h <;> first | exact absurd h (by decide) | exact rfl)
        · (and_intros <;> intro h <;> first | exact absurd h (by decide) | exact rfl)
        · (and_intros <;> intro h <;> first | exact absurd h (by decide) | exact rfl)
        · (and_intros <;> intro h <;> first | exact absurd h (by decide) | exact rfl)
      · refine ab_C_of (by decide) rfl (Nat.le_of_ble_eq_true rfl) hT ?_
        refine r_M_swap_0 hT _ _ (Nat.le_refl _) (Nat.le_refl _) ?_
        refine bb_f a1 (bb_f (by rw [m2]; exact a3) (bb_f g1 (bb_f g2 ?_)))
        rw [im, nl_mul2, nl_add2, nI_add, nI_clamp (by omega), w3 i (by omega)]
        exact ⟨vp_in_nI (by omega) (by omega), rfl⟩
    · right
      have hne : ∀ i, i ≤ 4 → u ≠ nI i := fun i hi e => by
        subst e; rw [nI_toInt (by omega)] at hout; omega
      refine ⟨kfr_refl, ?_, fun L n nc ns => ⟨0, _, mgr_x.1, mgr_x.2, ?_⟩⟩
      · refine ab_C_of (by decide) rfl (Nat.le_of_ble_eq_true rfl) hT ?_
        refine r_K_swap_0 hT _ _ (by omega) (Nat.le_add_right _ _) (Nat.le_add_right _ _) ?_
        refine bb_f a1 (bb_t (by rw [m1]; exact a4) ⟨by rw [ix]; exact vp_in_nI (by omega) (by omega), ?_⟩)
        (and_intros <;> intro h <;> first | exact absurd h (hne _ (by decide)) | rfl)
      · refine ab_C_of (by decide) rfl (Nat.le_of_ble_eq_true rfl) hT ?_
        refine r_M_swap_0 hT _ _ (Nat.le_refl _) (Nat.le_refl _) ?_
        refine bb_f a1 (bb_f (by rw [m2]; exact a3) ?_)
        rcases hout2 with h | ⟨h1, h2⟩
        · exact bb_t h rfl
        · exact bb_f h1 (bb_t h2 rfl)
  · right
    refine ⟨kfr_refl, ?_, fun L n nc ns => ⟨0, _, mgr_x.1, mgr_x.2, ?_⟩⟩
    · refine ab_C_of (by decide) rfl (Nat.le_of_ble_eq_true rfl) hT ?_
      refine r_K_swap_0 hT _ _ (by omega) (Nat.le_add_right _ _) (Nat.le_add_right _ _) ?_
      rcases hbad with h | ⟨h1, h2, h3, h4⟩
      · exact bb_t h rfl
      · exact bb_f h1 (bb_f (by rw [m1]; exact h4) rfl)
    · refine ab_C_of (by decide) rfl (Nat.le_of_ble_eq_true rfl) hT ?_
      refine r_M_swap_0 hT _ _ (Nat.le_refl _) (Nat.le_refl _) ?_
      rcases hbad with h | ⟨h1, h2, h3, h4⟩
      · exact bb_t h rfl
      · exact bb_f h1 (bb_t (by rw [m2]; exact h3) rfl)
end JSW
