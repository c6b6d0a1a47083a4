/-! REGROW: the net after an act, and the swap that is told -/
/-- the lowest, and one; 0 where there is none -/
def lw (p : Nat → Bool) : Nat := match (List.range 24).find? p with
  | some k => k + 1
  | none => 0
theorem lw_0 {p : Nat → Bool} (h : ∀ k, k < 24 → p k = false) : lw p = 0 := by
  unfold lw
  have : (List.range 24).find? p = none := List.find?_eq_none.mpr (fun k hk => by rw [h k (List.mem_range.mp hk)]; decide)
  rw [this]
theorem lw_s {p : Nat → Bool} {t : Nat} (ht : t < 24) (h1 : p t = true) (h0 : ∀ i, i < t → p i = false) : lw p = t + 1 := by
  unfold lw
  have : (List.range 24).find? p = some t := by
    rw [List.find?_range_eq_some]
    exact ⟨h1, List.mem_range.mpr ht, fun j hj => by rw [h0 j hj]; rfl⟩
  rw [this]
theorem lw_le {p : Nat → Bool} : lw p ≤ 24 := by
  unfold lw
  cases h : (List.range 24).find? p with
  | none => exact Nat.zero_le _
  | some k =>
    have := List.mem_range.mp (List.mem_of_find?_eq_some h)
    simp only []; omega
theorem lw_z {p : Nat → Bool} (h : lw p = 0) : ∀ k, k < 24 → p k = false := by
  intro k hk
  unfold lw at h
  cases hf : (List.range 24).find? p with
  | some t => rw [hf] at h; simp at h
  | none =>
    have := List.find?_eq_none.mp hf k (List.mem_range.mpr hk)
    cases hp : p k with
    | false => rfl
    | true => exact absurd hp this
theorem fnd_cong {p q : Nat → Bool} : ∀ {t : List Nat}, (∀ k ∈ t, p k = q k) → t.find? p = t.find? q := by
  intro t
  induction t with
  | nil => intro _; rfl
  | cons a t ih =>
    intro h
    rw [List.find?_cons, List.find?_cons, h a List.mem_cons_self, ih (fun k hk => h k (List.mem_cons_of_mem _ hk))]
theorem lw_cong {p q : Nat → Bool} (h : ∀ k, k < 24 → p k = q k) : lw p = lw q := by
  unfold lw
  have : (List.range 24).find? p = (List.range 24).find? q := fnd_cong (fun k hk => h k (List.mem_range.mp hk))
  rw [this]
theorem nI_or {a b : Nat} (ha : a < 2 ^ 32) (hb : b < 2 ^ 32) : nI a ||| nI b = nI (a ||| b) := b_ext fun i hi => by
  rw [b_or, bt_nIw ha, bt_nIw hb, bt_nIw (Nat.or_lt_two_pow ha hb), Nat.testBit_or]
theorem nI_shl : ∀ {a k : Nat}, a < 2 ^ 32 → k < 32 → a * 2 ^ k < 2 ^ 32 → nI a <<< (nI k &&& 31) = nI (a * 2 ^ k) := by
  intro a k ha hk h
  refine b_ext fun i hi => ?_
  rw [b_shl k hk _ hi, bt_nIw h, Nat.testBit_mul_two_pow]
  by_cases g : k ≤ i
  · rw [bt_nIw ha]
  · simp [g]
theorem or_add {a b k : Nat} (hb : b < 2 ^ k) : a * 2 ^ k ||| b = a * 2 ^ k + b := by
  rw [Nat.mul_comm, Nat.two_pow_add_eq_or_of_lt hb]
theorem sw_pack {h : Nat → Nat} (hb : swB h) : ((((nI (h 4) <<< ((18 : Int32) &&& 31)) ||| (nI (h 0) <<< ((15 : Int32) &&& 31))) ||| (nI (h 1) <<< ((10 : Int32) &&& 31))) ||| (nI (h 2) <<< ((5 : Int32) &&& 31))) ||| nI (h 3) = nI (swK h) := by
  obtain ⟨b0, b1, b2, b3, b4⟩ := hb
  have s18 : nI (h 4) <<< ((18 : Int32) &&& 31) = nI (h 4 * 2 ^ 18) := nI_shl (k := 18) (by omega) (by omega) (by omega)
  have s15 : nI (h 0) <<< ((15 : Int32) &&& 31) = nI (h 0 * 2 ^ 15) := nI_shl (k := 15) (by omega) (by omega) (by omega)
  have s10 : nI (h 1) <<< ((10 : Int32) &&& 31) = nI (h 1 * 2 ^ 10) := nI_shl (k := 10) (by omega) (by omega) (by omega)
  have s5 : nI (h 2) <<< ((5 : Int32) &&& 31) = nI (h 2 * 2 ^ 5) := nI_shl (k := 5) (by omega) (by omega) (by omega)
  have o1 := nI_or (a := h 4 * 2 ^ 18) (b := h 0 * 2 ^ 15) (by omega) (by omega)
  have l1 : h 4 * 2 ^ 18 ||| h 0 * 2 ^ 15 < 2 ^ 32 := Nat.or_lt_two_pow (by omega) (by omega)
  have o2 := nI_or (b := h 1 * 2 ^ 10) l1 (by omega)
  have l2 : h 4 * 2 ^ 18 ||| h 0 * 2 ^ 15 ||| h 1 * 2 ^ 10 < 2 ^ 32 := Nat.or_lt_two_pow l1 (by omega)
  have o3 := nI_or (b := h 2 * 2 ^ 5) l2 (by omega)
  have l3 : h 4 * 2 ^ 18 ||| h 0 * 2 ^ 15 ||| h 1 * 2 ^ 10 ||| h 2 * 2 ^ 5 < 2 ^ 32 := Nat.or_lt_two_pow l2 (by omega)
  have o4 := nI_or (b := h 3) l3 (by omega)
  rw [s18, s15, s10, s5, o1, o2, o3, o4]
  refine congrArg nI ?_
  rw [Nat.or_assoc, Nat.or_assoc, Nat.or_assoc, or_add (k := 5) (a := h 2) (by omega), or_add (k := 10) (a := h 1) (by omega), or_add (k := 15) (a := h 0) (by omega), or_add (k := 18) (a := h 4) (by omega)]
  unfold swK
  omega
section RGW
variable {w : ab_Wd} {d n nc ns : Nat} {I : Nat → Nat → Int32} {L : Nat → Nat → Int64}
variable {S N : Nat} {sd : Nat → Bool} {e1 e2 pr fm : Nat → Nat} {l : List Nat}
theorem z_lowX (hT : w.1.stackTraces = false) {x : Int32} (h : ∀ t, 24 ≤ t → t < 32 → bt x t = false) : ab_P w d mt_K_lowestOf [.int x] I L n nc ns (nI (lw (fun k => bt x k)) - 1) := by
  have z0 : ∀ j, j < 32 → bt (0 : Int32) j = false := fun j hj => by
    have : ∀ j : Fin 32, bt (0 : Int32) j.1 = false := by decide
    exact this ⟨j, hj⟩
  rcases low_ex h with e | ⟨t, t1, t2, t3⟩
  · have h0 : ∀ t, t < 24 → bt x t = false := fun t ht => by rw [e]; exact z0 t (by omega)
    rw [lw_0 h0]
    exact z_low hT h0
  · rw [lw_s t1 t2 t3, show (1 : Int32) = nI 1 from rfl, nI_sub (by omega)]
    exact z_lowS hT t1 t2 t3
/-- the swap between two nets -/
def swOf (why k : Nat) (A B : Nat → Bool) (tot : Nat) (q : Nat) : Nat := [why, k, lw (fun j => A j && !B j), lw (fun j => B j && !A j), tot].getD q 0
theorem swOf_B {why k tot : Nat} {A B : Nat → Bool} (h1 : why < 8) (h2 : k < 32) (h3 : tot < 16384) : swB (swOf why k A B tot) := by
  have a := lw_le (p := fun j => A j && !B j)
  have b := lw_le (p := fun j => B j && !A j)
  exact ⟨h1, h2, by show lw _ < 32; omega, by show lw _ < 32; omega, h3⟩
theorem k_regrow (hT : w.1.stackTraces = false) (hc : kC I S N sd e1 e2 pr fm l) {A : Nat → Bool} (hA : ∀ k, k < 32 → bt (I kx_forest 2) k = A k) (hA24 : ∀ k, 24 ≤ k → A k = false) {E why k : Nat} (hE : I kx_now_swaps 1 = nI E) (hE9 : E < 2 ^ 30) (hw : why < 8) (hk : k < 24) :
    ∃ J, gr_st J (fun c => if c = kx_now_swaps ∨ c = kx_now_swaps_rows then J c else I c) kx_forest kx_forest_order kx_forest_piece S pr (kr e1 e2 (l.filter sd)) ∧ (((∀ j, A j = decide (j ∈ net e1 e2 sd l)) ∧ J kx_now_swaps = I kx_now_swaps ∧ J kx_now_swaps_rows = I kx_now_swaps_rows) ∨ ((¬ ∀ j, A j = decide (j ∈ net e1 e2 sd l)) ∧ J kx_now_swaps 1 = nI (E + 1) ∧ J kx_now_swaps_rows = upd (I kx_now_swaps_rows) (E % 1024) (nI (swK (swOf why k A (fun j => decide (j ∈ net e1 e2 sd l)) ((net e1 e2 sd l).map pr).sum))))) ∧ ab_U w (d + 3) mt_K_regrow [.ref kx, .int (nI why), .int (nI k)] I L n nc ns J := by
  have p4 := hc.1.2.2.2.1
  obtain ⟨I2, g1, g2⟩ := g2_ok (d := d) (w := w) (n := n) (nc := nc) (ns := ns) (L := L) hT hc.1 (am := sd) (v := I kx_now_cables 2) (fun k hk => hc.2.2.2.1 k (by omega))
  generalize hB : (fun j => decide (j ∈ net e1 e2 sd l)) = B
  have hBb : ∀ j, j < 32 → bt (I2 kx_forest 2) j = B j := fun j hj => by rw [← hB]; exact g1.2.2.1 j hj
  have hB24 : ∀ j, 24 ≤ j → B j = false := fun j hj => by
    rw [← hB]
    refine decide_eq_false (fun h => ?_)
    have := (kp_net hc.1 hc.2.1 (by have := hc.2.2.1; omega) sd).1 j h
    omega
  have tot : I2 kx_forest 3 = nI ((net e1 e2 sd l).map pr).sum := g1.2.2.2.1
  have htot : ((net e1 e2 sd l).map pr).sum < 16384 := by
    have hlen := kq_lenA hc sd
    have hS := hc.1.2.2.1
    have : ∀ q : List Nat, (∀ k ∈ q, pr k ≤ 999) → (q.map pr).sum ≤ 999 * q.length := by
      intro q
      induction q with
      | nil => intro _; exact Nat.le_refl _
      | cons a q ih =>
        intro h
        have := ih (fun k hk => h k (List.mem_cons_of_mem _ hk))
        have := h a List.mem_cons_self
        rw [List.map_cons, List.sum_cons, List.length_cons]; omega
    have := this (net e1 e2 sd l) (fun k hk => (hc.1.2.2.2.2.2.2.2 k ((kp_net hc.1 hc.2.1 (by have := hc.2.2.1; omega) sd).1 k hk)).2.2.2.2.2)
    omega
  have lo := z_lowX (d := d + 2) (I := I2) (w := w) (n := n) (nc := nc) (ns := ns) (L := L) hT (x := (I kx_forest 2) &&& ((I2 kx_forest 2) ^^^ (-1))) (fun t h1 h2 => by rw [b_and, hA t h2, hA24 t h1]; rfl)
  have li := z_lowX (d := d + 2) (I := I2) (w := w) (n := n) (nc := nc) (ns := ns) (L := L) hT (x := (I2 kx_forest 2) &&& ((I kx_forest 2) ^^^ (-1))) (fun t h1 h2 => by rw [b_and, hBb t h2, hB24 t h1]; rfl)
  have eo : lw (fun k => bt ((I kx_forest 2) &&& ((I2 kx_forest 2) ^^^ (-1))) k) = lw (fun j => A j && !B j) := lw_cong (fun j hj => by rw [b_and, hA j (by omega), ab_bnot _ (by omega), hBb j (by omega)])
  have ei : lw (fun k => bt ((I2 kx_forest 2) &&& ((I kx_forest 2) ^^^ (-1))) k) = lw (fun j => B j && !A j) := lw_cong (fun j hj => by rw [b_and, hBb j (by omega), ab_bnot _ (by omega), hA j (by omega)])
  rw [eo] at lo
  rw [ei] at li
  have b1 := lw_le (p := fun j => A j && !B j)
  have b2 := lw_le (p := fun j => B j && !A j)
  have lm : ∀ a, a ≤ 24 → (nI a - 1 = -1 ↔ a = 0) ∧ nI a - 1 + 1 = nI a := by decide
  have sameIff : (∀ j, A j = B j) ↔ (lw (fun j => A j && !B j) = 0 ∧ lw (fun j => B j && !A j) = 0) := by
    constructor
    · intro h
      exact ⟨lw_0 (fun j _ => by rw [h j]; cases B j <;> rfl), lw_0 (fun j _ => by rw [h j]; cases B j <;> rfl)⟩
    · rintro ⟨h1, h2⟩ j
      by_cases hj : j < 24
      · have u1 := lw_z h1 j hj
        have u2 := lw_z h2 j hj
        cases hA' : A j <;> cases hB' : B j <;> simp_all
      · rw [hA24 j (by omega), hB24 j (by omega)]
  have sE : I2 kx_now_swaps 1 = nI E := by rw [g1.1 _ (by decide) (by decide) (by decide)]; exact hE
  have ix : (I2 kx_now_swaps 1) &&& 1023 = nI (E % 1024) := by
    rw [sE]; exact nI_andm (k := 10) (by omega) (by omega)
  have pack := sw_pack (swOf_B (A := A) (B := B) hw (show k < 32 by omega) htot)
  have pack : ((((nI ((net e1 e2 sd l).map pr).sum <<< ((18 : Int32) &&& 31)) ||| (nI why <<< ((15 : Int32) &&& 31))) ||| (nI k <<< ((10 : Int32) &&& 31))) ||| (nI (lw (fun j => A j && !B j)) <<< ((5 : Int32) &&& 31))) ||| nI (lw (fun j => B j && !A j)) = nI (swK (swOf why k A B ((net e1 e2 sd l).map pr).sum)) := pack
  by_cases hs : ∀ j, A j = B j
  · have hz := sameIff.mp hs
    refine ⟨I2, ⟨fun a h1 h2 h3 => ?_, g1.2⟩, Or.inl ⟨by rw [← hB] at hs; exact hs, g1.1 _ (by decide) (by decide) (by decide), g1.1 _ (by decide) (by decide) (by decide)⟩, ?_⟩
    · show I2 a = if a = kx_now_swaps ∨ a = kx_now_swaps_rows then I2 a else I a
      split
      · rfl
      · exact g1.1 a h1 h2 h3
    · refine ab_C_of (by decide) rfl (Nat.le_of_ble_eq_true rfl) hT ?_
      refine r_K_regrow_0 hT _ _ (Nat.le_refl _) (Nat.le_refl _) ?_
      exact ⟨I2, g2, _, lo, _, li, bb_t' (((lm _ b1).1).mpr hz.1) (bb_t (((lm _ b2).1).mpr hz.2) rfl)⟩
  · have hz : ¬ (lw (fun j => A j && !B j) = 0 ∧ lw (fun j => B j && !A j) = 0) := fun h => hs (sameIff.mpr h)
    refine ⟨ab_up (ab_up I2 kx_now_swaps_rows (E % 1024) (nI (swK (swOf why k A B ((net e1 e2 sd l).map pr).sum)))) kx_now_swaps 1 (nI (E + 1)), ⟨fun a h1 h2 h3 => ?_, ?_, ?_, ?_, ?_, ?_, ?_⟩, Or.inr ⟨by rw [← hB] at hs; exact hs, by rw [ab_up_i, pk_us], ?_⟩, ?_⟩
    · show _ = if a = kx_now_swaps ∨ a = kx_now_swaps_rows then _ else I a
      by_cases e : a = kx_now_swaps ∨ a = kx_now_swaps_rows
      · rw [if_pos e]
      · rw [if_neg e, ab_up_o (fun h => e (Or.inl h)), ab_up_o (fun h => e (Or.inr h))]
        exact g1.1 a h1 h2 h3
    · rw [ab_up_o (by decide), ab_up_o (by decide)]; exact g1.2.1
    · rw [ab_up_o (by decide), ab_up_o (by decide)]; exact g1.2.2.1
    · rw [ab_up_o (by decide), ab_up_o (by decide)]; exact g1.2.2.2.1
    · rw [ab_up_o (by decide), ab_up_o (by decide)]; exact g1.2.2.2.2.1
    · rw [ab_up_o (by decide), ab_up_o (by decide)]; exact g1.2.2.2.2.2.1
    · rw [ab_up_o (by decide), ab_up_o (by decide)]; exact g1.2.2.2.2.2.2
    · rw [ab_up_o (by decide), ab_up_i, g1.1 _ (by decide) (by decide) (by decide)]
    · refine ab_C_of (by decide) rfl (Nat.le_of_ble_eq_true rfl) hT ?_
      refine r_K_regrow_0 hT _ _ (Nat.le_refl _) (Nat.le_refl _) ?_
      refine ⟨I2, g2, _, lo, _, li, ?_⟩
      rw [ix, nI_clamp (by omega), tot, (lm _ b1).2, (lm _ b2).2, pack, sE, nI_1]
      refine ⟨fun _ => ⟨vp_in_nI (by omega) (by omega), rfl⟩, fun h => ⟨fun h' => absurd ⟨((lm _ b1).1).mp h, ((lm _ b2).1).mp h'⟩ hz, fun _ => ⟨vp_in_nI (by omega) (by omega), rfl⟩⟩⟩
end RGW
