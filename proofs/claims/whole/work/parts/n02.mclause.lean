/-! NET: the model reads a clause -/
def mBt (I : Nat → Nat → Int32) (c : Cb) : Prop := mB I c.1 c.2.1 c.2.2.1 c.2.2.2.1 c.2.2.2.2.1 c.2.2.2.2.2.1 c.2.2.2.2.2.2
def mRt (I : Nat → Nat → Int32) (b : Nat → Nat) (Z : Nat) (t : Tk) (c : Cb) : Prop := mR I b Z t c.1 c.2.1 c.2.2.1 c.2.2.2.1 c.2.2.2.2.1 c.2.2.2.2.2.1 c.2.2.2.2.2.2
section MCL
variable {w : ab_Wd} {d n nc ns : Nat} {I : Nat → Nat → Int32} {L : Nat → Nat → Int64}
variable {b : Nat → Nat} {Z : Nat} {t : Tk} {S N : Nat} {sd : Nat → Bool} {e1 e2 pr fm : Nat → Nat}
/-- a cell of the reading that isn't told yet -/
theorem mR_rd {k : Nat} {x : Int32} (h : mR I b Z t S N sd e1 e2 pr fm) (hN : N < 24) (hk : k = 3 + N ∨ k = 27 + N ∨ k = 51 + N ∨ k = 75 + N) : mR (ab_up I mx_reading k x) b Z t S N sd e1 e2 pr fm := by
  obtain ⟨h1, h2, h3, h4, ⟨b0, b1, b2, b3, b4, b5, b6, b7⟩⟩ := h
  have jr : (ab_up I mx_reading k x) mx = I mx := ab_up_o (by decide)
  refine ⟨⟨by rw [jr]; exact h1.1, h1.2.1, fun j hj => by rw [ab_up_o (by decide)]; exact h1.2.2 j hj⟩, by unfold mAt; rw [jr]; exact h2, h3, by rw [jr]; exact h4, by rw [jr]; exact b0, by rw [ab_up_i, pk_un (by omega)]; exact b1, b2, b3, b4, fun j hj => by rw [ab_up_i, pk_un (by omega)]; exact b5 j hj, by rw [ab_up_i, pk_un (by omega)]; exact b6, fun j hj => ?_⟩
  rw [ab_up_i, pk_un (by omega), pk_un (by omega), pk_un (by omega), pk_un (by omega)]; exact b7 j hj
theorem z_readCable (hT : w.1.stackTraces = false) (h : mR I b Z t S N sd e1 e2 pr fm) : (∃ c a, cabP b Z t S N = .inl (c, a) ∧ ∃ J, mnf J I ∧ mF J c a ∧ ab_U w (d + 3) mt_M_readCable [.ref mx] I L n nc ns J) ∨ (∃ x y p f t', cabP b Z t S N = .inr ((x, y, p, f), t') ∧ ∃ J, mnf J I ∧ mR J b Z t' S (N + 1) (un sd N true) (un e1 N x) (un e2 N y) (un pr N p) (un fm N f) ∧ ab_U w (d + 3) mt_M_readCable [.ref mx] I L n nc ns J) := by
  have hZ := h.1.2.1
  have i1 : I mx_reading 0 = nI N := h.2.2.2.2.2.1
  have hN := h.2.2.2.2.2.2.2.2.1
  by_cases h24 : N < 24
  case neg =>
    left
    have e : N = 24 := by omega
    refine ⟨2, t.2.1, by unfold cabP; rw [if_neg h24], wrg I 2 t.2.1, mnf_wrg, mF_wrg (by omega) (by omega), ?_⟩
    refine ab_C_of (by decide) rfl (Nat.le_of_ble_eq_true rfl) hT ?_
    refine r_M_readCable_0 hT (Nat.le_refl _) (Nat.le_refl _) ?_
    rw [i1, e, h.2.1.2.1]
    refine bb_t' rfl (bb_t h.2.2.2.1 ?_)
    refine r_M_readCable_16 hT (Nat.le_refl _) (Nat.le_refl _) ?_
    exact bb_f (mF_ne (mF_wrg (c := 2) (a := t.2.1) (by omega) (by omega))) rfl
  have st0 : ∀ res, ab_E w ((d + 2) + 1) mt_M_readCable 16 [.ref mx, .null] [] (I, L, ab_RR, n, nc, ns) (.inl none, (res, L, ab_RR, n, nc, ns)) → ab_U w (d + 3) mt_M_readCable [.ref mx] I L n nc ns res := fun res u => by
    refine ab_C_of (by decide) rfl (Nat.le_of_ble_eq_true rfl) hT ?_
    refine r_M_readCable_0 hT (Nat.le_refl _) (Nat.le_refl _) ?_
    rw [i1]
    exact bb_f' (fun g => by have := (nI_eq (b := 24) (by omega) (by omega)).mp g; omega) u
  obtain ⟨I3, f3, r3, u3⟩ := Az_next (d := d + 1) (w := w) (n := n) (nc := nc) (ns := ns) (L := L) hT h
  have j1 : I3 mx_reading 0 = nI N := r3.2.2.2.2.2.1
  have c3 : (3 + nI N).toNatClampNeg = 3 + N := by rw [nl_add2, nI_clamp (by omega)]
  have c27 : (27 + nI N).toNatClampNeg = 27 + N := by rw [nl_add2, nI_clamp (by omega)]
  have c51 : (51 + nI N).toNatClampNeg = 51 + N := by rw [nl_add2, nI_clamp (by omega)]
  have c75 : (75 + nI N).toNatClampNeg = 75 + N := by rw [nl_add2, nI_clamp (by omega)]
  have p3 : vp_in (3 + nI N) 399 := by rw [nl_add2]; exact vp_in_nI (by omega) (by omega)
  have p27 : vp_in (27 + nI N) 399 := by rw [nl_add2]; exact vp_in_nI (by omega) (by omega)
  have p51 : vp_in (51 + nI N) 399 := by rw [nl_add2]; exact vp_in_nI (by omega) (by omega)
  have p75 : vp_in (75 + nI N) 399 := by rw [nl_add2]; exact vp_in_nI (by omega) (by omega)
  rcases z_siteNow (d := d) (w := w) (n := n) (nc := nc) (ns := ns) (L := L) hT r3 with ⟨c, a, s1, s2, s3, r4, u4⟩ | ⟨x, s1, s2, u4⟩
  · left
    have mf := mF_wrg (I := I3) (a := a) s2 s3
    obtain ⟨J, f5, c5, u5⟩ := Bz58 (d := d) (w := w) (n := n) (nc := nc) (ns := ns) (L := L) hT h24 (mF_rd (k := 3 + N) (x := r4) mf)
    refine ⟨c, a, by unfold cabP; rw [if_pos h24, s1], J, mnf_trans f5 (mnf_rd (mnf_trans mnf_wrg (mnf_mv f3))), c5, st0 _ ?_⟩
    refine r_M_readCable_16 hT (Nat.le_refl _) (Nat.le_refl _) ?_
    refine bb_t h.2.2.2.1 ⟨_, u3, _, _, u4, ?_⟩
    rw [j1, c3]
    exact ⟨p3, bb_f' (mF_ne mf) u5⟩
  have r3' := mR_rd (k := 3 + N) (x := nI x) r3 h24 (Or.inl rfl)
  obtain ⟨I9, f9, r9, u9⟩ := Az_next (d := d + 1) (w := w) (n := n) (nc := nc) (ns := ns) (L := L) hT r3'
  have x9 : I9 mx_reading (3 + N) = nI x := by rw [f9.1 _ (by decide), ab_up_i, pk_us]
  have st1 : ∀ res, ab_E w ((d + 2) + 1) mt_M_readCable 58 [.ref mx, .int (nI N)] [] (I9, L, ab_RR, n, nc, ns) (.inl none, (res, L, ab_RR, n, nc, ns)) → ab_U w (d + 3) mt_M_readCable [.ref mx] I L n nc ns res := fun res u => by
    refine st0 _ ?_
    refine r_M_readCable_16 hT (Nat.le_refl _) (Nat.le_refl _) ?_
    refine bb_t h.2.2.2.1 ⟨_, u3, _, _, u4, ?_⟩
    rw [j1, c3]
    exact ⟨p3, bb_t' r3.2.2.2.1 ⟨_, u9, u⟩⟩
  have F9 : mnf I9 I := mnf_trans (mnf_mv f9) (mnf_rd (mnf_mv f3))
  rcases z_siteNow (d := d) (w := w) (n := n) (nc := nc) (ns := ns) (L := L) hT r9 with ⟨c, a, q1, q2, q3, r5, u5⟩ | ⟨y, q1, q2, u5⟩
  · left
    have mf := mF_wrg (I := I9) (a := a) q2 q3
    obtain ⟨J, f6, c6, u6⟩ := Bz103 (d := d) (w := w) (n := n) (nc := nc) (ns := ns) (L := L) hT h24 (mF_rd (k := 27 + N) (x := r5) mf)
    refine ⟨c, a, by unfold cabP; rw [if_pos h24, s1]; simp only [q1], J, mnf_trans f6 (mnf_rd (mnf_trans mnf_wrg F9)), c6, st1 _ ?_⟩
    refine r_M_readCable_58 hT _ (Nat.le_refl _) (Nat.le_refl _) ?_
    refine ⟨_, _, u5, p27, ?_⟩
    rw [c27]
    exact bb_f' (mF_ne mf) u6
  have r9' := mR_rd (k := 27 + N) (x := nI y) r9 h24 (Or.inr (Or.inl rfl))
  have hS10 := h.2.2.2.2.2.2.2.1
  have rd27 : (ab_up I9 mx_reading (27 + N) (nI y)) mx_reading (27 + N) = nI y := by rw [ab_up_i, pk_us]
  have rd3 : (ab_up I9 mx_reading (27 + N) (nI y)) mx_reading (3 + N) = nI x := by rw [ab_up_i, pk_un (by omega)]; exact x9
  by_cases hxy : x = y
  · left
    have mf := mF_wrg (I := ab_up I9 mx_reading (27 + N) (nI y)) (c := 5) (a := (nxt b Z (nxt b Z t)).2.1) (by omega) (by omega)
    obtain ⟨J, f6, c6, u6⟩ := Bz103 (d := d) (w := w) (n := n) (nc := nc) (ns := ns) (L := L) hT h24 mf
    refine ⟨5, _, by unfold cabP; rw [if_pos h24, s1]; simp only [q1, if_pos hxy], J, mnf_trans f6 (mnf_trans mnf_wrg (mnf_rd F9)), c6, st1 _ ?_⟩
    refine r_M_readCable_58 hT _ (Nat.le_refl _) (Nat.le_refl _) ?_
    refine ⟨_, _, u5, p27, ?_⟩
    rw [c27, c3, rd27, rd3, r9.2.1.2.1]
    exact bb_t' r9.2.2.2.1 ⟨p3, bb_t' (by rw [hxy]) (bb_t r9.2.2.2.1 u6)⟩
  have st2 : ∀ res, ab_E w ((d + 2) + 1) mt_M_readCable 103 [.ref mx, .int (nI N)] [] ((ab_up I9 mx_reading (27 + N) (nI y)), L, ab_RR, n, nc, ns) (.inl none, (res, L, ab_RR, n, nc, ns)) → ab_U w (d + 3) mt_M_readCable [.ref mx] I L n nc ns res := fun res u => by
    refine st1 _ ?_
    refine r_M_readCable_58 hT _ (Nat.le_refl _) (Nat.le_refl _) ?_
    refine ⟨_, _, u5, p27, ?_⟩
    rw [c27, c3, rd27, rd3]
    exact bb_t' r9.2.2.2.1 ⟨p3, bb_f' (fun g => hxy ((nI_eq (by omega) (by omega)).mp g).symm) u⟩
  obtain ⟨I10, f10, r10, u10⟩ := Az_next (d := d + 1) (w := w) (n := n) (nc := nc) (ns := ns) (L := L) hT r9'
  have F10 : mnf I10 I := mnf_trans (mnf_mv f10) (mnf_rd F9)
  have x10 : I10 mx_reading (3 + N) = nI x := by rw [f10.1 _ (by decide)]; exact rd3
  have y10 : I10 mx_reading (27 + N) = nI y := by rw [f10.1 _ (by decide)]; exact rd27
  have st3 : ∀ res, ab_E w ((d + 2) + 1) mt_M_readCable 114 [.ref mx, .int (nI N)] [] (I10, L, ab_RR, n, nc, ns) (.inl none, (res, L, ab_RR, n, nc, ns)) → ab_U w (d + 3) mt_M_readCable [.ref mx] I L n nc ns res := fun res u => by
    refine st2 _ ?_
    refine r_M_readCable_103 hT _ (Nat.le_refl _) (Nat.le_refl _) ?_
    exact bb_t' r9'.2.2.2.1 ⟨_, u10, u⟩
  rcases z_readNum (d := d) (w := w) (n := n) (nc := nc) (ns := ns) (L := L) hT r10 (lo := 1) (hi := 999) (by omega) (by omega) with ⟨c, g1, g2, g3, u11⟩ | ⟨p, g1, g2, g3, I11, f11, r11, u11⟩
  · left
    have mf := mF_wrg (I := I10) (c := c) (a := (nxt b Z (nxt b Z (nxt b Z t))).2.1) g2 (by omega)
    obtain ⟨J, f12, c12, u12⟩ := Bz164 (d := d) (w := w) (n := n) (nc := nc) (ns := ns) (L := L) hT h24 (mF_rd (k := 51 + N) (x := nI 1) mf) 0
    refine ⟨c, _, by unfold cabP; rw [if_pos h24, s1]; simp only [q1, if_neg hxy, g1], J, mnf_trans f12 (mnf_rd (mnf_trans mnf_wrg F10)), c12, st3 _ ?_⟩
    refine r_M_readCable_114 hT _ (Nat.le_refl _) (Nat.le_refl _) ?_
    refine ⟨_, _, u11, p51, ?_⟩
    rw [c51]
    refine bb_f' (mF_ne mf) ?_
    refine r_M_readCable_163 hT _ _ (Nat.le_refl _) (Nat.le_refl _) ?_
    exact u12
  have r11' := mR_rd (k := 51 + N) (x := nI p) r11 h24 (Or.inr (Or.inr (Or.inl rfl)))
  have F11 : mnf (ab_up I11 mx_reading (51 + N) (nI p)) I := mnf_rd (mnf_trans (mnf_mv f11) F10)
  have x11 : (ab_up I11 mx_reading (51 + N) (nI p)) mx_reading (3 + N) = nI x := by rw [ab_up_i, pk_un (by omega), f11.1 _ (by decide)]; exact x10
  have y11 : (ab_up I11 mx_reading (51 + N) (nI p)) mx_reading (27 + N) = nI y := by rw [ab_up_i, pk_un (by omega), f11.1 _ (by decide)]; exact y10
  have z11 : (ab_up I11 mx_reading (51 + N) (nI p)) mx_reading (51 + N) = nI p := by rw [ab_up_i, pk_us]
  -- the cable is told
  have put : ∀ (K : Nat → Nat → Int32) (t' : Tk) (f : Nat), mR K b Z t' S N sd e1 e2 pr fm → K mx_reading (3 + N) = nI x → K mx_reading (27 + N) = nI y → K mx_reading (51 + N) = nI p → ∃ J, mnf J K ∧ mR J b Z t' S (N + 1) (un sd N true) (un e1 N x) (un e2 N y) (un pr N p) (un fm N f) ∧ ab_E w (d + 3) mt_M_readCable 164 [.ref mx, .int (nI N)] [.int (nI f), .int (75 + nI N), .ref mx_reading] (K, L, ab_RR, n, nc, ns) (.inl none, (J, L, ab_RR, n, nc, ns)) := by
    intro K t' f hK kx ky kp
    obtain ⟨k1, k2, k3, k4, ⟨b0, b1, b2, b3, b4, b5, b6, b7⟩⟩ := hK
    obtain ⟨J, hJ⟩ : ∃ J, J = ab_up (ab_up (ab_up K mx_reading (75 + N) (nI f)) mx_reading 1 ((K mx_reading 1) ||| ((1 : Int32) <<< (nI N &&& 31)))) mx_reading 0 (nI (N + 1)) := ⟨_, rfl⟩
    have fJ : mnf J K := by rw [hJ]; exact mnf_rd (mnf_rd (mnf_rd mnf_refl))
    have jr : J mx = K mx := by rw [hJ, ab_up_o (by decide), ab_up_o (by decide), ab_up_o (by decide)]
    have jd : J mx_reading = upd (upd (upd (K mx_reading) (75 + N) (nI f)) 1 ((K mx_reading 1) ||| ((1 : Int32) <<< (nI N &&& 31)))) 0 (nI (N + 1)) := by rw [hJ, ab_up_i, ab_up_i, ab_up_i]
    refine ⟨J, fJ, ⟨⟨by rw [jr]; exact k1.1, k1.2.1, fun j hj => by rw [fJ.1 _ (by decide) (by decide)]; exact k1.2.2 j hj⟩, by unfold mAt; rw [jr]; exact k2, k3, by rw [jr]; exact k4, by rw [jr]; exact b0, by rw [jd, pk_us], b2, b3, by omega, fun k hk => ?_, by rw [jd, pk_un (by omega), pk_un (by omega), pk_un (by omega)]; exact b6, fun k hk => ?_⟩, ?_⟩
    · rw [jd, pk_un (by omega), pk_us, b_or, b5 k hk, ab_sh1 (by omega) hk]
      by_cases e : k = N
      · rw [e, un_s, decide_eq_true rfl, Bool.or_true]
      · rw [un_o e, decide_eq_false e, Bool.or_false]
    · rw [jd]
      by_cases e : k = N
      · subst e
        rw [un_s, un_s, un_s, un_s]
        refine ⟨?_, ?_, ?_, ?_⟩
        · rw [pk_un (by omega), pk_un (by omega), pk_un (by omega)]; exact kx
        · rw [pk_un (by omega), pk_un (by omega), pk_un (by omega)]; exact ky
        · rw [pk_un (by omega), pk_un (by omega), pk_un (by omega)]; exact kp
        · rw [pk_un (by omega), pk_un (by omega), pk_us]
      · rw [un_o e, un_o e, un_o e, un_o e]
        obtain ⟨q1, q2, q3, q4⟩ := b7 k (by omega)
        refine ⟨?_, ?_, ?_, ?_⟩
        · rw [pk_un (by omega), pk_un (by omega), pk_un (by omega)]; exact q1
        · rw [pk_un (by omega), pk_un (by omega), pk_un (by omega)]; exact q2
        · rw [pk_un (by omega), pk_un (by omega), pk_un (by omega)]; exact q3
        · rw [pk_un (by omega), pk_un (by omega), pk_un (by omega)]; exact q4
    · refine r_M_readCable_164 hT _ _ _ (Nat.le_refl _) (Nat.le_refl _) ?_
      rw [c75, show (ab_up K mx_reading (75 + N) (nI f)) mx_reading 1 = K mx_reading 1 by rw [ab_up_i, pk_un (by omega)], show (ab_up (ab_up K mx_reading (75 + N) (nI f)) mx_reading 1 ((K mx_reading 1) ||| ((1 : Int32) <<< (nI N &&& 31)))) mx_reading 0 = nI N by rw [ab_up_i, pk_un (by omega), ab_up_i, pk_un (by omega)]; exact b1, nI_1, ← hJ]
      exact ⟨p75, rfl⟩
  have n7 : I11 mx 15 = 0 := r11.2.2.2.1
  by_cases k : (nxt b Z (nxt b Z (nxt b Z (nxt b Z t)))).1 = 2
  · have k' : I11 mx 11 = 2 := by rw [r11.2.1.1, k]; rfl
    rcases z_readNum (d := d) (w := w) (n := n) (nc := nc) (ns := ns) (L := L) hT r11' (lo := 0) (hi := 3) (by omega) (by omega) with ⟨c, v1, v2, v3, u12⟩ | ⟨f, v1, v2, v3, I12, f12, r12, u12⟩
    · left
      have mf := mF_wrg (I := ab_up I11 mx_reading (51 + N) (nI p)) (c := c) (a := (nxt b Z (nxt b Z (nxt b Z (nxt b Z t)))).2.1) v2 (by omega)
      obtain ⟨J, f13, c13, u13⟩ := Bz164 (d := d) (w := w) (n := n) (nc := nc) (ns := ns) (L := L) hT h24 mf (nI 0)
      refine ⟨c, _, by unfold cabP; rw [if_pos h24, s1]; simp only [q1, if_neg hxy, g1, if_pos k, v1], J, mnf_trans f13 (mnf_trans mnf_wrg F11), c13, st3 _ ?_⟩
      refine r_M_readCable_114 hT _ (Nat.le_refl _) (Nat.le_refl _) ?_
      refine ⟨_, _, u11, p51, ?_⟩
      rw [c51]
      exact bb_t' n7 (bb_t' k' ⟨_, _, u12, u13⟩)
    · right
      obtain ⟨J, f13, c13, u13⟩ := put I12 _ f r12 (by rw [f12.1 _ (by decide)]; exact x11) (by rw [f12.1 _ (by decide)]; exact y11) (by rw [f12.1 _ (by decide)]; exact z11)
      refine ⟨x, y, p, f, _, by unfold cabP; rw [if_pos h24, s1]; simp only [q1, if_neg hxy, g1, if_pos k, v1], J, mnf_trans f13 (mnf_trans (mnf_mv f12) F11), c13, st3 _ ?_⟩
      refine r_M_readCable_114 hT _ (Nat.le_refl _) (Nat.le_refl _) ?_
      refine ⟨_, _, u11, p51, ?_⟩
      rw [c51]
      exact bb_t' n7 (bb_t' k' ⟨_, _, u12, u13⟩)
  · right
    have k' : ¬ I11 mx 11 = 2 := fun e => k (by rw [r11.2.1.1] at e; exact (nI_eq (b := 2) (by have := r11.2.2.1.1; omega) (by omega)).mp e)
    obtain ⟨J, f13, c13, u13⟩ := put _ _ 0 r11' x11 y11 z11
    refine ⟨x, y, p, 0, _, by unfold cabP; rw [if_pos h24, s1]; simp only [q1, if_neg hxy, g1, if_neg k], J, mnf_trans f13 F11, c13, st3 _ ?_⟩
    refine r_M_readCable_114 hT _ (Nat.le_refl _) (Nat.le_refl _) ?_
    refine ⟨_, _, u11, p51, ?_⟩
    rw [c51]
    refine bb_t' n7 (bb_f' k' ?_)
    refine r_M_readCable_163 hT _ _ (Nat.le_refl _) (Nat.le_refl _) ?_
    exact u13
theorem z_readBroken (hT : w.1.stackTraces = false) (h : mR I b Z t S N sd e1 e2 pr fm) : (∃ c a, brkP b Z t N sd = .inl (c, a) ∧ ∃ J, mnf J I ∧ mF J c a ∧ ab_U w (d + 3) mt_M_readBroken [.ref mx] I L n nc ns J) ∨ (∃ k t', brkP b Z t N sd = .inr (k, t') ∧ ∃ J, mnf J I ∧ mR J b Z t' S N (fun j => if j = k then false else sd j) e1 e2 pr fm ∧ ab_U w (d + 3) mt_M_readBroken [.ref mx] I L n nc ns J) := by
  have hZ := h.1.2.1
  obtain ⟨I2, f2, r2, u2⟩ := Az_next (d := d + 1) (w := w) (n := n) (nc := nc) (ns := ns) (L := L) hT h
  have hN4 := h.2.2.2.2.2.2.2.2.1
  have i1 : I2 mx_reading 0 = nI N := r2.2.2.2.2.2.1
  have n7 := r2.2.2.2.1
  rcases z_numNow (d := d + 1) (w := w) (n := n) (nc := nc) (ns := ns) (L := L) hT hZ r2.2.2.1 r2.2.1 n7 (lo := 0) (hi := 23) (by omega) (by omega) with ⟨c, g1, g2, g3, u9⟩ | ⟨k, g1, g2, g3, u9⟩
  · left
    have mf := mF_wrg (I := I2) (c := c) (a := (nxt b Z t).2.1) g2 (by omega)
    have ne := mF_ne mf
    refine ⟨c, _, by unfold brkP; rw [g1], _, mnf_trans mnf_wrg (mnf_mv f2), mf, ?_⟩
    refine ab_C_of (by decide) rfl (Nat.le_of_ble_eq_true rfl) hT ?_
    refine r_M_readBroken_0 hT (Nat.le_refl _) (Nat.le_refl _) ?_
    exact ⟨_, u2, _, _, u9, bb_f' ne (bb_f' ne (bb_f ne rfl))⟩
  have bk : bt (I2 mx_reading 1) k = sd k := r2.2.2.2.2.2.2.2.2.2.1 k (by omega)
  by_cases hkN : k < N
  case neg =>
    left
    refine ⟨3, _, by unfold brkP; rw [g1]; simp only [if_neg hkN], wrg I2 3 (nxt b Z t).2.1, mnf_trans mnf_wrg (mnf_mv f2), mF_wrg (by omega) (by omega), ?_⟩
    unfold wrg
    refine ab_C_of (by decide) rfl (Nat.le_of_ble_eq_true rfl) hT ?_
    refine r_M_readBroken_0 hT (Nat.le_refl _) (Nat.le_refl _) ?_
    exact ⟨_, u2, _, _, u9, bb_t' n7 (bb_f (fun g => hkN (by rw [i1] at g; exact (nI_ltI (by omega) (by omega)).mp g)) (bb_t n7 (by rw [r2.2.1.2.1]; rfl)))⟩
  have lt : nI k < I2 mx_reading 0 := by rw [i1]; exact (nI_ltI (by omega) (by omega)).mpr hkN
  have bit0 : ((I2 mx_reading 1 >>> (nI k &&& 31)) &&& 1) = 0 ↔ ¬ sd k = true := by
    rw [ab_bit _ (show k < 32 by omega), bk]
    cases sd k
    · exact ⟨fun _ => by decide, fun _ => rfl⟩
    · exact ⟨fun g => absurd g (by decide), fun g => absurd rfl g⟩
  by_cases hsd : sd k = true
  case neg =>
    left
    refine ⟨4, _, by unfold brkP; rw [g1]; simp only [if_pos hkN, if_neg hsd], wrg I2 4 (nxt b Z t).2.1, mnf_trans mnf_wrg (mnf_mv f2), mF_wrg (by omega) (by omega), ?_⟩
    unfold wrg
    refine ab_C_of (by decide) rfl (Nat.le_of_ble_eq_true rfl) hT ?_
    refine r_M_readBroken_0 hT (Nat.le_refl _) (Nat.le_refl _) ?_
    exact ⟨_, u2, _, _, u9, bb_t' n7 (bb_t lt (bb_t' n7 (bb_t' (bit0.mpr hsd) (bb_t n7 (by rw [r2.2.1.2.1]; rfl)))))⟩
  right
  obtain ⟨I13, f13, r13, u13⟩ := Az_next (d := d + 1) (w := w) (n := n) (nc := nc) (ns := ns) (L := L) hT r2
  refine ⟨k, nxt b Z (nxt b Z t), by unfold brkP; rw [g1]; simp only [if_pos hkN, if_pos hsd], ab_up I13 mx_reading 1 ((I13 mx_reading 1) &&& (((1 : Int32) <<< (nI k &&& 31)) ^^^ (-1))), mnf_rd (mnf_trans (mnf_mv f13) (mnf_mv f2)), ?_, ?_⟩
  · obtain ⟨k1, k2, k3, k4, ⟨b0, b1, b2, b3, b4, b5, b6, b7⟩⟩ := r13
    have jr : (ab_up I13 mx_reading 1 ((I13 mx_reading 1) &&& (((1 : Int32) <<< (nI k &&& 31)) ^^^ (-1)))) mx = I13 mx := ab_up_o (by decide)
    refine ⟨⟨by rw [jr]; exact k1.1, k1.2.1, fun j hj => by rw [ab_up_o (by decide)]; exact k1.2.2 j hj⟩, by unfold mAt; rw [jr]; exact k2, k3, by rw [jr]; exact k4, by rw [jr]; exact b0, by rw [ab_up_i, pk_un (by decide)]; exact b1, b2, b3, b4, fun j hj => ?_, by rw [ab_up_i, pk_un (by decide)]; exact b6, fun j hj => ?_⟩
    · show _ = if j = k then false else sd j
      rw [ab_up_i, pk_us, b_and, b5 j hj, ab_bnot _ hj, ab_sh1 (by omega) hj]
      by_cases e : j = k
      · rw [if_pos e, decide_eq_true e]; cases sd j <;> rfl
      · rw [if_neg e, decide_eq_false e]; cases sd j <;> rfl
    · rw [ab_up_i, pk_un (by omega), pk_un (by omega), pk_un (by omega), pk_un (by omega)]; exact b7 j hj
  · refine ab_C_of (by decide) rfl (Nat.le_of_ble_eq_true rfl) hT ?_
    refine r_M_readBroken_0 hT (Nat.le_refl _) (Nat.le_refl _) ?_
    exact ⟨_, u2, _, _, u9, bb_t' n7 (bb_t lt (bb_t' n7 (bb_f' (fun g => bit0.mp g hsd) (bb_t n7 ⟨_, u13, rfl⟩))))⟩
end MCL
