/-! THE LAW'S STEPS -/
theorem lg_0 (x : Int64) : lg_cmp x x = 0 := by
  unfold lg_cmp
  simp
def stp (w : ab_Wd) (d pc : Nat) (v4 : Int32) (I : Nat → Nat → Int32) (L : Nat → Nat → Int64) (nc ns T : Nat) : Prop := ∃ (K : Nat → Nat → Int32) (L' : Nat → Nat → Int64) (nc' ns' : Nat), RR K (T + 1) ∧ nc ≤ nc' ∧ nc' ≤ nc + 1 ∧ ns ≤ ns' ∧ ns' ≤ ns + 9 ∧ ∀ res : ab_Re, nc' ≤ res.2.2.2.2.2.1 → ns' ≤ res.2.2.2.2.2.2 → ab_E w (d + 18) mt_W_law 1658 [.ref 34, .ref kx, .ref mx, .ref ox_out, .int v4, .null, .null] [] (K, L', ab_RR, 91, nc', ns') res → ab_E w (d + 18) mt_W_law pc [.ref 34, .ref kx, .ref mx, .ref ox_out, .int v4, .null, .null] [] (I, L, ab_RR, 91, nc, ns) res
/-- the script's cells of a call -/
def scr (w : ab_Wd) (v4 : Int32) : Prop := vp_in (v4 + 1) w.2.2.2.2.1 ∧ vp_in (v4 + 2) w.2.2.2.2.1 ∧ vp_in (v4 + 3) w.2.2.2.2.1 ∧ vp_in (v4 + 4) w.2.2.2.2.1 ∧ vp_in (v4 + 5) w.2.2.2.2.1
theorem q_W_without_0x {w : ab_Wd} {d n nc ns : Nat} {I : Nat → Nat → Int32} {L : Nat → Nat → Int64} {res : ab_Re} (v1 : Int32) (v2 : Int32) (hc : nc ≤ res.2.2.2.2.2.1) (hs : ns ≤ res.2.2.2.2.2.2)
    (h : ((∃ (r1 : Int32) (I2 : Nat → Nat → Int32), ab_C w d mt_K_without [.ref kx, .int v1, .int v2] (I, L, ab_RR, n, nc, ns) (.inl (some (.int r1)), (I2, L, ab_RR, n, nc, ns)) ∧ (res = (.inl (some (.int 0)), (I2, (ab_upL L ox_out 0 (Int32.toInt64 r1)), ab_RR, n, nc, ns)))) ∨ (∃ I2 : Nat → Nat → Int32, ab_C w d mt_K_without [.ref kx, .int v1, .int v2] (I, L, ab_RR, n, nc, ns) (.inr "java/util/NoSuchElementException", (I2, L, ab_RR, n, nc + 1, ns + 6)) ∧ (nc + 1 ≤ res.2.2.2.2.2.1 ∧ ns + 6 ≤ res.2.2.2.2.2.2) ∧ (res = (.inl (some (.int 1)), (I2, L, ab_RR, n + 1, nc + 1, ns + 6)))))) : ab_E w (d + 1) mt_W_without 0 [.ref kx, .int v1, .int v2, .ref ox_out, .null] [] (I, L, ab_RR, n, nc, ns) res := by
  refine ab_aload_n (i := 3) d_W_without_0 rfl rfl ?_
  refine ab_iconst (v := 0) d_W_without_1 rfl ?_
  refine ab_aload_n (i := 0) d_W_without_2 rfl rfl ?_
  refine ab_iload_n (i := 1) d_W_without_3 rfl rfl ?_
  refine ab_iload_n (i := 2) d_W_without_4 rfl rfl ?_
  rcases h with ⟨r1, I2, hC, h⟩ | ⟨I2, hC, ⟨l1, l2⟩, h⟩
  · refine ab_callV (me2 := mt_K_without) (b := kx) (as := [.int v1, .int v2]) (st := [.int 0, .ref ox_out]) (rv := (some (.int r1))) (M2 := (I2, L, ab_RR, n, nc, ns)) d_W_without_5 ce_K_without v_1208 v_1209 v_1210 (by decide) rfl (Nat.le_of_ble_eq_true rfl) hC (Nat.le_refl _) (Nat.le_refl _) hc hs (fun j h9 => by cases h9) (fun _ _ => rfl) ?_
    show ab_E w (d + 1) mt_W_without 8 [.ref kx, .int v1, .int v2, .ref ox_out, .null] [.int r1, .int 0, .ref ox_out] (I2, L, ab_RR, n, nc, ns) res
    refine ab_i2l d_W_without_8 ?_
    refine ab_last d_W_without_9 rfl rfl (by unfold vp_in; decide) ?_
    refine ab_goto (tgt := 17) d_W_without_10 (by decide) ?_
    refine ab_iconst (v := 0) d_W_without_17 rfl ?_
    exact ab_iret (ty := .int) d_W_without_18 rfl rfl h
  · refine ab_callVC (me2 := mt_K_without) (b := kx) (as := [.int v1, .int v2]) (st := [.int 0, .ref ox_out]) (M2 := (I2, L, ab_RR, n, nc + 1, ns + 6)) (E := "java/util/NoSuchElementException") (hpc := 13) (i := ab_id n 36 0) ⟨[], _, _, _, rfl, (fun z hz => by cases hz), by decide +kernel, by decide, v_922, u_1051, rfl⟩ (ab_id_bl (by decide) (by decide)) (by rw [ab_id_cd (by decide)]; decide) d_W_without_5 ce_K_without v_1208 v_1209 v_1210 (by decide) rfl (Nat.le_of_ble_eq_true rfl) hC (Nat.le_succ _) (Nat.le_add_right _ _) l1 l2 (fun _ _ => rfl) ?_
    show ab_E w (d + 1) mt_W_without 13 [.ref kx, .int v1, .int v2, .ref ox_out, .null] [.ref (ab_id n 36 0)] (I2, L, ab_RR, n + 1, nc + 1, ns + 6) res
    refine ab_astore (i := 4) d_W_without_13 (by decide) (Or.inr rfl) ?_
    refine ab_iconst (v := 1) d_W_without_15 rfl ?_
    exact ab_iret (ty := .int) d_W_without_16 rfl rfl h
theorem q_W_told_0x {w : ab_Wd} {d n nc ns : Nat} {I : Nat → Nat → Int32} {L : Nat → Nat → Int64} {res : ab_Re} (v1 : Int32) (hc : nc ≤ res.2.2.2.2.2.1) (hs : ns ≤ res.2.2.2.2.2.2)
    (h : ((∃ (r1 : Int32) (I2 : Nat → Nat → Int32), ab_C w d mt_K_told [.ref kx, .int v1] (I, L, ab_RR, n, nc, ns) (.inl (some (.int r1)), (I2, L, ab_RR, n, nc, ns)) ∧ (res = (.inl (some (.int 0)), (I2, (ab_upL L ox_out 0 (Int32.toInt64 r1)), ab_RR, n, nc, ns)))) ∨ (∃ I2 : Nat → Nat → Int32, ab_C w d mt_K_told [.ref kx, .int v1] (I, L, ab_RR, n, nc, ns) (.inr "java/util/NoSuchElementException", (I2, L, ab_RR, n, nc + 1, ns + 6)) ∧ (nc + 1 ≤ res.2.2.2.2.2.1 ∧ ns + 6 ≤ res.2.2.2.2.2.2) ∧ (res = (.inl (some (.int 1)), (I2, L, ab_RR, n + 1, nc + 1, ns + 6)))))) : ab_E w (d + 1) mt_W_told 0 [.ref kx, .int v1, .ref ox_out, .null] [] (I, L, ab_RR, n, nc, ns) res := by
  refine ab_aload_n (i := 2) d_W_told_0 rfl rfl ?_
  refine ab_iconst (v := 0) d_W_told_1 rfl ?_
  refine ab_aload_n (i := 0) d_W_told_2 rfl rfl ?_
  refine ab_iload_n (i := 1) d_W_told_3 rfl rfl ?_
  rcases h with ⟨r1, I2, hC, h⟩ | ⟨I2, hC, ⟨l1, l2⟩, h⟩
  · refine ab_callV (me2 := mt_K_told) (b := kx) (as := [.int v1]) (st := [.int 0, .ref ox_out]) (rv := (some (.int r1))) (M2 := (I2, L, ab_RR, n, nc, ns)) d_W_told_4 ce_K_told v_1215 v_1216 v_1217 (by decide) rfl (Nat.le_of_ble_eq_true rfl) hC (Nat.le_refl _) (Nat.le_refl _) hc hs (fun j h9 => by cases h9) (fun _ _ => rfl) ?_
    show ab_E w (d + 1) mt_W_told 7 [.ref kx, .int v1, .ref ox_out, .null] [.int r1, .int 0, .ref ox_out] (I2, L, ab_RR, n, nc, ns) res
    refine ab_i2l d_W_told_7 ?_
    refine ab_last d_W_told_8 rfl rfl (by unfold vp_in; decide) ?_
    refine ab_goto (tgt := 15) d_W_told_9 (by decide) ?_
    refine ab_iconst (v := 0) d_W_told_15 rfl ?_
    exact ab_iret (ty := .int) d_W_told_16 rfl rfl h
  · refine ab_callVC (me2 := mt_K_told) (b := kx) (as := [.int v1]) (st := [.int 0, .ref ox_out]) (M2 := (I2, L, ab_RR, n, nc + 1, ns + 6)) (E := "java/util/NoSuchElementException") (hpc := 12) (i := ab_id n 36 0) ⟨[], _, _, _, rfl, (fun z hz => by cases hz), by decide +kernel, by decide, v_922, u_1051, rfl⟩ (ab_id_bl (by decide) (by decide)) (by rw [ab_id_cd (by decide)]; decide) d_W_told_4 ce_K_told v_1215 v_1216 v_1217 (by decide) rfl (Nat.le_of_ble_eq_true rfl) hC (Nat.le_succ _) (Nat.le_add_right _ _) l1 l2 (fun _ _ => rfl) ?_
    show ab_E w (d + 1) mt_W_told 12 [.ref kx, .int v1, .ref ox_out, .null] [.ref (ab_id n 36 0)] (I2, L, ab_RR, n + 1, nc + 1, ns + 6) res
    refine ab_astore_n (i := 3) d_W_told_12 rfl (by decide) (Or.inr rfl) ?_
    refine ab_iconst (v := 1) d_W_told_13 rfl ?_
    exact ab_iret (ty := .int) d_W_told_14 rfl rfl h
section LST
variable {w : ab_Wd} {d n nc ns : Nat} {I : Nat → Nat → Int32} {L : Nat → Nat → Int64}
variable {T : Nat} {v4 : Int32}
theorem m_thrown (hT : w.1.stackTraces = false) {x : Int32} (h : I mx 1 = x) : ab_C w d mt_M_thrown [.ref mx] (I, L, ab_RR, n, nc, ns) (.inl (some (.int x)), (I, L, ab_RR, n, nc, ns)) := by
  rw [← h]
  refine ab_C_of (by decide) rfl (Nat.le_of_ble_eq_true rfl) hT ?_
  refine q_M_thrown_0 (Nat.le_refl _) (Nat.le_refl _) ?_
  rfl
theorem s_count (hT : w.1.stackTraces = false) (g : RR I T) (hT9 : T ≤ 1000) (hp : scr w v4) : stp w d 318 v4 I L nc ns T := by
  obtain ⟨p1, p2, p3, p4, p5⟩ := hp
  obtain ⟨S, N, sd, e1, e2, pr, fm, l, hq, ⟨E, h, hh⟩, mn, cb, ib, hn⟩ := RR_Q g hT9
  rcases j_count (d := d) (w := w) (n := 91) (nc := nc) (ns := ns) (L := L) hT hq (w.2.2.2.2.2.1 (v4 + 1).toNatClampNeg) with ⟨J, kf, r, u1, hM⟩ | ⟨kf, u1, hM⟩
  · have hW : ab_CH w (d + 17) mt_W_count [.ref kx, .int (w.2.2.2.2.2.1 (v4 + 1).toNatClampNeg), .ref ox_out] (I, L, ab_RR, 91, nc, ns) (.inl (some (.int 0)), (J, ab_upL L ox_out 0 (Int32.toInt64 r), ab_RR, 91, nc, ns)) := ab_CH_of (by decide) (Nat.le_of_ble_eq_true rfl) hT (q_W_count_0 _ (Nat.le_refl _) (Nat.le_refl _) (Or.inl ⟨r, J, u1, rfl⟩))
    obtain ⟨K, m1, k1, u2⟩ := hM (ab_upL L ox_out 0 (Int32.toInt64 r)) 91 nc ns
    refine ⟨K, ab_upL L ox_out 0 (Int32.toInt64 r), nc, ns, RR_q (Nat.le_succ T) kf m1 g, Nat.le_refl _, Nat.le_succ _, Nat.le_refl _, Nat.le_add_right _ _, fun res hc hs k => ?_⟩
    refine q_W_law_318 _ hc hs ⟨p1, 0, _, _, _, _, _, ⟨hW, Nat.le_refl _, Nat.le_refl _, hc, hs⟩, p1, r, K, ab_C_up u2, 0, m_thrown hT k1, bb_t rfl (bb_t' rfl (bb_t ?_ ?_))⟩
    · rw [show (ab_upL L ox_out 0 (Int32.toInt64 r)) ox_out 0 = Int32.toInt64 r from by rw [ab_upL_row, ab_row_eq, pk_uLs]]
      exact lg_0 _
    · exact q_W_law_371 _ _ _ hc hs k
  · have hW : ab_CH w (d + 17) mt_W_count [.ref kx, .int (w.2.2.2.2.2.1 (v4 + 1).toNatClampNeg), .ref ox_out] (I, L, ab_RR, 91, nc, ns) (.inl (some (.int 1)), (I, L, ab_RR, 92, nc + 1, ns + 6)) := ab_CH_of (by decide) (Nat.le_of_ble_eq_true rfl) hT (q_W_count_0 _ (Nat.le_add_right _ _) (Nat.le_add_right _ _) (Or.inr ⟨u1, ⟨Nat.le_refl _, Nat.le_refl _⟩, rfl⟩))
    obtain ⟨r, K, m1, k1, u2⟩ := hM L 91 (nc + 1) (ns + 6)
    refine ⟨K, L, nc + 1, ns + 6, RR_q (Nat.le_succ T) kf m1 g, Nat.le_succ _, Nat.le_refl _, Nat.le_add_right _ _, by omega, fun res hc hs k => ?_⟩
    refine q_W_law_318 _ (Nat.le_trans (Nat.le_succ _) hc) (Nat.le_trans (Nat.le_add_right _ 6) hs) ⟨p1, 1, _, _, _, _, _, ⟨hW, Nat.le_succ _, Nat.le_add_right _ _, hc, hs⟩, p1, r, K, ab_C_up u2, 1, m_thrown hT k1, bb_t rfl (bb_f' (by decide) ?_)⟩
    exact q_W_law_371 _ _ _ hc hs k
theorem s_cable (hT : w.1.stackTraces = false) (g : RR I T) (hT9 : T ≤ 1000) (hp : scr w v4) : stp w d 374 v4 I L nc ns T := by
  obtain ⟨p1, p2, p3, p4, p5⟩ := hp
  obtain ⟨S, N, sd, e1, e2, pr, fm, l, hq, ⟨E, h, hh⟩, mn, cb, ib, hn⟩ := RR_Q g hT9
  rcases j_cable (d := d) (w := w) (n := 91) (nc := nc) (ns := ns) (L := L) hT hq (w.2.2.2.2.2.1 (v4 + 1).toNatClampNeg) (w.2.2.2.2.2.1 (v4 + 2).toNatClampNeg) with ⟨kf, r, u1, hM⟩ | ⟨kf, u1, hM⟩
  · have hW : ab_CH w (d + 17) mt_W_cable [.ref kx, .int (w.2.2.2.2.2.1 (v4 + 1).toNatClampNeg), .int (w.2.2.2.2.2.1 (v4 + 2).toNatClampNeg), .ref ox_out] (I, L, ab_RR, 91, nc, ns) (.inl (some (.int 0)), (I, ab_upL L ox_out 0 (Int32.toInt64 r), ab_RR, 91, nc, ns)) := ab_CH_of (by decide) (Nat.le_of_ble_eq_true rfl) hT (q_W_cable_0 _ _ (Nat.le_refl _) (Nat.le_refl _) (Or.inl ⟨r, u1, rfl⟩))
    obtain ⟨K, m1, k1, u2⟩ := hM (ab_upL L ox_out 0 (Int32.toInt64 r)) 91 nc ns
    refine ⟨K, ab_upL L ox_out 0 (Int32.toInt64 r), nc, ns, RR_q (Nat.le_succ T) kf m1 g, Nat.le_refl _, Nat.le_succ _, Nat.le_refl _, Nat.le_add_right _ _, fun res hc hs k => ?_⟩
    refine q_W_law_374 _ hc hs ⟨p1, p2, 0, _, _, _, _, _, ⟨hW, Nat.le_refl _, Nat.le_refl _, hc, hs⟩, p1, p2, r, K, ab_C_up u2, 0, m_thrown hT k1, bb_t rfl (bb_t' rfl (bb_t ?_ ?_))⟩
    · rw [show (ab_upL L ox_out 0 (Int32.toInt64 r)) ox_out 0 = Int32.toInt64 r from by rw [ab_upL_row, ab_row_eq, pk_uLs]]
      exact lg_0 _
    · exact q_W_law_439 _ _ _ hc hs k
  · have hW : ab_CH w (d + 17) mt_W_cable [.ref kx, .int (w.2.2.2.2.2.1 (v4 + 1).toNatClampNeg), .int (w.2.2.2.2.2.1 (v4 + 2).toNatClampNeg), .ref ox_out] (I, L, ab_RR, 91, nc, ns) (.inl (some (.int 1)), (I, L, ab_RR, 92, nc + 1, ns + 6)) := ab_CH_of (by decide) (Nat.le_of_ble_eq_true rfl) hT (q_W_cable_0 _ _ (Nat.le_add_right _ _) (Nat.le_add_right _ _) (Or.inr ⟨u1, ⟨Nat.le_refl _, Nat.le_refl _⟩, rfl⟩))
    obtain ⟨r, K, m1, k1, u2⟩ := hM L 91 (nc + 1) (ns + 6)
    refine ⟨K, L, nc + 1, ns + 6, RR_q (Nat.le_succ T) kf m1 g, Nat.le_succ _, Nat.le_refl _, Nat.le_add_right _ _, by omega, fun res hc hs k => ?_⟩
    refine q_W_law_374 _ (Nat.le_trans (Nat.le_succ _) hc) (Nat.le_trans (Nat.le_add_right _ 6) hs) ⟨p1, p2, 1, _, _, _, _, _, ⟨hW, Nat.le_succ _, Nat.le_add_right _ _, hc, hs⟩, p1, p2, r, K, ab_C_up u2, 1, m_thrown hT k1, bb_t rfl (bb_f' (by decide) ?_)⟩
    exact q_W_law_439 _ _ _ hc hs k
theorem s_ring (hT : w.1.stackTraces = false) (g : RR I T) (hT9 : T ≤ 1000) (hp : scr w v4) : stp w d 442 v4 I L nc ns T := by
  obtain ⟨p1, p2, p3, p4, p5⟩ := hp
  obtain ⟨S, N, sd, e1, e2, pr, fm, l, hq, ⟨E, h, hh⟩, mn, cb, ib, hn⟩ := RR_Q g hT9
  rcases j_ring (d := d) (w := w) (n := 91) (nc := nc) (ns := ns) (L := L) hT hq (w.2.2.2.2.2.1 (v4 + 1).toNatClampNeg) (w.2.2.2.2.2.1 (v4 + 2).toNatClampNeg) with ⟨kf, r, u1, hM⟩ | ⟨kf, u1, hM⟩
  · have hW : ab_CH w (d + 17) mt_W_ring [.ref kx, .int (w.2.2.2.2.2.1 (v4 + 1).toNatClampNeg), .int (w.2.2.2.2.2.1 (v4 + 2).toNatClampNeg), .ref ox_out] (I, L, ab_RR, 91, nc, ns) (.inl (some (.int 0)), (I, ab_upL L ox_out 0 (Int32.toInt64 r), ab_RR, 91, nc, ns)) := ab_CH_of (by decide) (Nat.le_of_ble_eq_true rfl) hT (q_W_ring_0 _ _ (Nat.le_refl _) (Nat.le_refl _) (Or.inl ⟨r, u1, rfl⟩))
    obtain ⟨K, m1, k1, u2⟩ := hM (ab_upL L ox_out 0 (Int32.toInt64 r)) 91 nc ns
    refine ⟨K, ab_upL L ox_out 0 (Int32.toInt64 r), nc, ns, RR_q (Nat.le_succ T) kf m1 g, Nat.le_refl _, Nat.le_succ _, Nat.le_refl _, Nat.le_add_right _ _, fun res hc hs k => ?_⟩
    refine q_W_law_442 _ hc hs ⟨p1, p2, 0, _, _, _, _, _, ⟨hW, Nat.le_refl _, Nat.le_refl _, hc, hs⟩, p1, p2, r, K, ab_C_up u2, 0, m_thrown hT k1, bb_t rfl (bb_t' rfl (bb_t ?_ ?_))⟩
    · rw [show (ab_upL L ox_out 0 (Int32.toInt64 r)) ox_out 0 = Int32.toInt64 r from by rw [ab_upL_row, ab_row_eq, pk_uLs]]
      exact lg_0 _
    · exact q_W_law_507 _ _ _ hc hs k
  · have hW : ab_CH w (d + 17) mt_W_ring [.ref kx, .int (w.2.2.2.2.2.1 (v4 + 1).toNatClampNeg), .int (w.2.2.2.2.2.1 (v4 + 2).toNatClampNeg), .ref ox_out] (I, L, ab_RR, 91, nc, ns) (.inl (some (.int 1)), (I, L, ab_RR, 92, nc + 1, ns + 6)) := ab_CH_of (by decide) (Nat.le_of_ble_eq_true rfl) hT (q_W_ring_0 _ _ (Nat.le_add_right _ _) (Nat.le_add_right _ _) (Or.inr ⟨u1, ⟨Nat.le_refl _, Nat.le_refl _⟩, rfl⟩))
    obtain ⟨r, K, m1, k1, u2⟩ := hM L 91 (nc + 1) (ns + 6)
    refine ⟨K, L, nc + 1, ns + 6, RR_q (Nat.le_succ T) kf m1 g, Nat.le_succ _, Nat.le_refl _, Nat.le_add_right _ _, by omega, fun res hc hs k => ?_⟩
    refine q_W_law_442 _ (Nat.le_trans (Nat.le_succ _) hc) (Nat.le_trans (Nat.le_add_right _ 6) hs) ⟨p1, p2, 1, _, _, _, _, _, ⟨hW, Nat.le_succ _, Nat.le_add_right _ _, hc, hs⟩, p1, p2, r, K, ab_C_up u2, 1, m_thrown hT k1, bb_t rfl (bb_f' (by decide) ?_)⟩
    exact q_W_law_507 _ _ _ hc hs k
theorem s_taken (hT : w.1.stackTraces = false) (g : RR I T) (hT9 : T ≤ 1000) (hp : scr w v4) : stp w d 510 v4 I L nc ns T := by
  obtain ⟨p1, p2, p3, p4, p5⟩ := hp
  obtain ⟨S, N, sd, e1, e2, pr, fm, l, hq, ⟨E, h, hh⟩, mn, cb, ib, hn⟩ := RR_Q g hT9
  rcases j_taken (d := d) (w := w) (n := 91) (nc := nc) (ns := ns) (L := L) hT hq (w.2.2.2.2.2.1 (v4 + 1).toNatClampNeg) with ⟨kf, r, u1, hM⟩ | ⟨kf, u1, hM⟩
  · have hW : ab_CH w (d + 17) mt_W_taken [.ref kx, .int (w.2.2.2.2.2.1 (v4 + 1).toNatClampNeg), .ref ox_out] (I, L, ab_RR, 91, nc, ns) (.inl (some (.int 0)), (I, ab_upL L ox_out 0 (Int32.toInt64 r), ab_RR, 91, nc, ns)) := ab_CH_of (by decide) (Nat.le_of_ble_eq_true rfl) hT (q_W_taken_0 _ (Nat.le_refl _) (Nat.le_refl _) (Or.inl ⟨r, u1, rfl⟩))
    obtain ⟨K, m1, k1, u2⟩ := hM (ab_upL L ox_out 0 (Int32.toInt64 r)) 91 nc ns
    refine ⟨K, ab_upL L ox_out 0 (Int32.toInt64 r), nc, ns, RR_q (Nat.le_succ T) kf m1 g, Nat.le_refl _, Nat.le_succ _, Nat.le_refl _, Nat.le_add_right _ _, fun res hc hs k => ?_⟩
    refine q_W_law_510 _ hc hs ⟨p1, 0, _, _, _, _, _, ⟨hW, Nat.le_refl _, Nat.le_refl _, hc, hs⟩, p1, r, K, ab_C_up u2, 0, m_thrown hT k1, bb_t rfl (bb_t' rfl (bb_t ?_ ?_))⟩
    · rw [show (ab_upL L ox_out 0 (Int32.toInt64 r)) ox_out 0 = Int32.toInt64 r from by rw [ab_upL_row, ab_row_eq, pk_uLs]]
      exact lg_0 _
    · exact q_W_law_563 _ _ _ hc hs k
  · have hW : ab_CH w (d + 17) mt_W_taken [.ref kx, .int (w.2.2.2.2.2.1 (v4 + 1).toNatClampNeg), .ref ox_out] (I, L, ab_RR, 91, nc, ns) (.inl (some (.int 1)), (I, L, ab_RR, 92, nc + 1, ns + 6)) := ab_CH_of (by decide) (Nat.le_of_ble_eq_true rfl) hT (q_W_taken_0 _ (Nat.le_add_right _ _) (Nat.le_add_right _ _) (Or.inr ⟨u1, ⟨Nat.le_refl _, Nat.le_refl _⟩, rfl⟩))
    obtain ⟨r, K, m1, k1, u2⟩ := hM L 91 (nc + 1) (ns + 6)
    refine ⟨K, L, nc + 1, ns + 6, RR_q (Nat.le_succ T) kf m1 g, Nat.le_succ _, Nat.le_refl _, Nat.le_add_right _ _, by omega, fun res hc hs k => ?_⟩
    refine q_W_law_510 _ (Nat.le_trans (Nat.le_succ _) hc) (Nat.le_trans (Nat.le_add_right _ 6) hs) ⟨p1, 1, _, _, _, _, _, ⟨hW, Nat.le_succ _, Nat.le_add_right _ _, hc, hs⟩, p1, r, K, ab_C_up u2, 1, m_thrown hT k1, bb_t rfl (bb_f' (by decide) ?_)⟩
    exact q_W_law_563 _ _ _ hc hs k
theorem s_site (hT : w.1.stackTraces = false) (g : RR I T) (hT9 : T ≤ 1000) (hp : scr w v4) : stp w d 566 v4 I L nc ns T := by
  obtain ⟨p1, p2, p3, p4, p5⟩ := hp
  obtain ⟨S, N, sd, e1, e2, pr, fm, l, hq, ⟨E, h, hh⟩, mn, cb, ib, hn⟩ := RR_Q g hT9
  rcases j_site (d := d) (w := w) (n := 91) (nc := nc) (ns := ns) (L := L) hT hq (w.2.2.2.2.2.1 (v4 + 1).toNatClampNeg) (w.2.2.2.2.2.1 (v4 + 2).toNatClampNeg) with ⟨J, kf, r, u1, hM⟩ | ⟨kf, u1, hM⟩
  · have hW : ab_CH w (d + 17) mt_W_site [.ref kx, .int (w.2.2.2.2.2.1 (v4 + 1).toNatClampNeg), .int (w.2.2.2.2.2.1 (v4 + 2).toNatClampNeg), .ref ox_out] (I, L, ab_RR, 91, nc, ns) (.inl (some (.int 0)), (J, ab_upL L ox_out 0 (Int32.toInt64 r), ab_RR, 91, nc, ns)) := ab_CH_of (by decide) (Nat.le_of_ble_eq_true rfl) hT (q_W_site_0 _ _ (Nat.le_refl _) (Nat.le_refl _) (Or.inl ⟨r, J, u1, rfl⟩))
    obtain ⟨K, m1, k1, u2⟩ := hM (ab_upL L ox_out 0 (Int32.toInt64 r)) 91 nc ns
    refine ⟨K, ab_upL L ox_out 0 (Int32.toInt64 r), nc, ns, RR_q (Nat.le_succ T) kf m1 g, Nat.le_refl _, Nat.le_succ _, Nat.le_refl _, Nat.le_add_right _ _, fun res hc hs k => ?_⟩
    refine q_W_law_566 _ hc hs ⟨p1, p2, 0, _, _, _, _, _, ⟨hW, Nat.le_refl _, Nat.le_refl _, hc, hs⟩, p1, p2, r, K, ab_C_up u2, 0, m_thrown hT k1, bb_t rfl (bb_t' rfl (bb_t ?_ ?_))⟩
    · rw [show (ab_upL L ox_out 0 (Int32.toInt64 r)) ox_out 0 = Int32.toInt64 r from by rw [ab_upL_row, ab_row_eq, pk_uLs]]
      exact lg_0 _
    · exact q_W_law_631 _ _ _ hc hs k
  · have hW : ab_CH w (d + 17) mt_W_site [.ref kx, .int (w.2.2.2.2.2.1 (v4 + 1).toNatClampNeg), .int (w.2.2.2.2.2.1 (v4 + 2).toNatClampNeg), .ref ox_out] (I, L, ab_RR, 91, nc, ns) (.inl (some (.int 1)), (I, L, ab_RR, 92, nc + 1, ns + 6)) := ab_CH_of (by decide) (Nat.le_of_ble_eq_true rfl) hT (q_W_site_0 _ _ (Nat.le_add_right _ _) (Nat.le_add_right _ _) (Or.inr ⟨u1, ⟨Nat.le_refl _, Nat.le_refl _⟩, rfl⟩))
    obtain ⟨r, K, m1, k1, u2⟩ := hM L 91 (nc + 1) (ns + 6)
    refine ⟨K, L, nc + 1, ns + 6, RR_q (Nat.le_succ T) kf m1 g, Nat.le_succ _, Nat.le_refl _, Nat.le_add_right _ _, by omega, fun res hc hs k => ?_⟩
    refine q_W_law_566 _ (Nat.le_trans (Nat.le_succ _) hc) (Nat.le_trans (Nat.le_add_right _ 6) hs) ⟨p1, p2, 1, _, _, _, _, _, ⟨hW, Nat.le_succ _, Nat.le_add_right _ _, hc, hs⟩, p1, p2, r, K, ab_C_up u2, 1, m_thrown hT k1, bb_t rfl (bb_f' (by decide) ?_)⟩
    exact q_W_law_631 _ _ _ hc hs k
theorem s_way (hT : w.1.stackTraces = false) (g : RR I T) (hT9 : T ≤ 1000) (hp : scr w v4) : stp w d 634 v4 I L nc ns T := by
  obtain ⟨p1, p2, p3, p4, p5⟩ := hp
  obtain ⟨S, N, sd, e1, e2, pr, fm, l, hq, ⟨E, h, hh⟩, mn, cb, ib, hn⟩ := RR_Q g hT9
  rcases j_way (d := d) (w := w) (n := 91) (nc := nc) (ns := ns) (L := L) hT hq (w.2.2.2.2.2.1 (v4 + 1).toNatClampNeg) (w.2.2.2.2.2.1 (v4 + 2).toNatClampNeg) (w.2.2.2.2.2.1 (v4 + 3).toNatClampNeg) with ⟨J, kf, r, u1, hM⟩ | ⟨kf, u1, hM⟩
  · have hW : ab_CH w (d + 17) mt_W_way [.ref kx, .int (w.2.2.2.2.2.1 (v4 + 1).toNatClampNeg), .int (w.2.2.2.2.2.1 (v4 + 2).toNatClampNeg), .int (w.2.2.2.2.2.1 (v4 + 3).toNatClampNeg), .ref ox_out] (I, L, ab_RR, 91, nc, ns) (.inl (some (.int 0)), (J, ab_upL L ox_out 0 (Int32.toInt64 r), ab_RR, 91, nc, ns)) := ab_CH_of (by decide) (Nat.le_of_ble_eq_true rfl) hT (q_W_way_0 _ _ _ (Nat.le_refl _) (Nat.le_refl _) (Or.inl ⟨r, J, u1, rfl⟩))
    obtain ⟨K, m1, k1, u2⟩ := hM (ab_upL L ox_out 0 (Int32.toInt64 r)) 91 nc ns
    refine ⟨K, ab_upL L ox_out 0 (Int32.toInt64 r), nc, ns, RR_q (Nat.le_succ T) kf m1 g, Nat.le_refl _, Nat.le_succ _, Nat.le_refl _, Nat.le_add_right _ _, fun res hc hs k => ?_⟩
    refine q_W_law_634 _ hc hs ⟨p1, p2, p3, 0, _, _, _, _, _, ⟨hW, Nat.le_refl _, Nat.le_refl _, hc, hs⟩, p1, p2, p3, r, K, ab_C_up u2, 0, m_thrown hT k1, bb_t rfl (bb_t' rfl (bb_t ?_ ?_))⟩
    · rw [show (ab_upL L ox_out 0 (Int32.toInt64 r)) ox_out 0 = Int32.toInt64 r from by rw [ab_upL_row, ab_row_eq, pk_uLs]]
      exact lg_0 _
    · exact q_W_law_711 _ _ _ hc hs k
  · have hW : ab_CH w (d + 17) mt_W_way [.ref kx, .int (w.2.2.2.2.2.1 (v4 + 1).toNatClampNeg), .int (w.2.2.2.2.2.1 (v4 + 2).toNatClampNeg), .int (w.2.2.2.2.2.1 (v4 + 3).toNatClampNeg), .ref ox_out] (I, L, ab_RR, 91, nc, ns) (.inl (some (.int 1)), (I, L, ab_RR, 92, nc + 1, ns + 6)) := ab_CH_of (by decide) (Nat.le_of_ble_eq_true rfl) hT (q_W_way_0 _ _ _ (Nat.le_add_right _ _) (Nat.le_add_right _ _) (Or.inr ⟨u1, ⟨Nat.le_refl _, Nat.le_refl _⟩, rfl⟩))
    obtain ⟨r, K, m1, k1, u2⟩ := hM L 91 (nc + 1) (ns + 6)
    refine ⟨K, L, nc + 1, ns + 6, RR_q (Nat.le_succ T) kf m1 g, Nat.le_succ _, Nat.le_refl _, Nat.le_add_right _ _, by omega, fun res hc hs k => ?_⟩
    refine q_W_law_634 _ (Nat.le_trans (Nat.le_succ _) hc) (Nat.le_trans (Nat.le_add_right _ 6) hs) ⟨p1, p2, p3, 1, _, _, _, _, _, ⟨hW, Nat.le_succ _, Nat.le_add_right _ _, hc, hs⟩, p1, p2, p3, r, K, ab_C_up u2, 1, m_thrown hT k1, bb_t rfl (bb_f' (by decide) ?_)⟩
    exact q_W_law_711 _ _ _ hc hs k
theorem s_firm (hT : w.1.stackTraces = false) (g : RR I T) (hT9 : T ≤ 1000) (hp : scr w v4) : stp w d 714 v4 I L nc ns T := by
  obtain ⟨p1, p2, p3, p4, p5⟩ := hp
  obtain ⟨S, N, sd, e1, e2, pr, fm, l, hq, ⟨E, h, hh⟩, mn, cb, ib, hn⟩ := RR_Q g hT9
  rcases j_firm (d := d) (w := w) (n := 91) (nc := nc) (ns := ns) (L := L) hT hq (w.2.2.2.2.2.1 (v4 + 1).toNatClampNeg) (w.2.2.2.2.2.1 (v4 + 2).toNatClampNeg) with ⟨J, kf, r, u1, hM⟩ | ⟨kf, u1, hM⟩
  · have hW : ab_CH w (d + 17) mt_W_firm [.ref kx, .int (w.2.2.2.2.2.1 (v4 + 1).toNatClampNeg), .int (w.2.2.2.2.2.1 (v4 + 2).toNatClampNeg), .ref ox_out] (I, L, ab_RR, 91, nc, ns) (.inl (some (.int 0)), (J, ab_upL L ox_out 0 (Int32.toInt64 r), ab_RR, 91, nc, ns)) := ab_CH_of (by decide) (Nat.le_of_ble_eq_true rfl) hT (q_W_firm_0 _ _ (Nat.le_refl _) (Nat.le_refl _) (Or.inl ⟨r, J, u1, rfl⟩))
    obtain ⟨K, m1, k1, u2⟩ := hM (ab_upL L ox_out 0 (Int32.toInt64 r)) 91 nc ns
    refine ⟨K, ab_upL L ox_out 0 (Int32.toInt64 r), nc, ns, RR_q (Nat.le_succ T) kf m1 g, Nat.le_refl _, Nat.le_succ _, Nat.le_refl _, Nat.le_add_right _ _, fun res hc hs k => ?_⟩
    refine q_W_law_714 _ hc hs ⟨p1, p2, 0, _, _, _, _, _, ⟨hW, Nat.le_refl _, Nat.le_refl _, hc, hs⟩, p1, p2, r, K, ab_C_up u2, 0, m_thrown hT k1, bb_t rfl (bb_t' rfl (bb_t ?_ ?_))⟩
    · rw [show (ab_upL L ox_out 0 (Int32.toInt64 r)) ox_out 0 = Int32.toInt64 r from by rw [ab_upL_row, ab_row_eq, pk_uLs]]
      exact lg_0 _
    · exact q_W_law_779 _ _ _ hc hs k
  · have hW : ab_CH w (d + 17) mt_W_firm [.ref kx, .int (w.2.2.2.2.2.1 (v4 + 1).toNatClampNeg), .int (w.2.2.2.2.2.1 (v4 + 2).toNatClampNeg), .ref ox_out] (I, L, ab_RR, 91, nc, ns) (.inl (some (.int 1)), (I, L, ab_RR, 92, nc + 1, ns + 6)) := ab_CH_of (by decide) (Nat.le_of_ble_eq_true rfl) hT (q_W_firm_0 _ _ (Nat.le_add_right _ _) (Nat.le_add_right _ _) (Or.inr ⟨u1, ⟨Nat.le_refl _, Nat.le_refl _⟩, rfl⟩))
    obtain ⟨r, K, m1, k1, u2⟩ := hM L 91 (nc + 1) (ns + 6)
    refine ⟨K, L, nc + 1, ns + 6, RR_q (Nat.le_succ T) kf m1 g, Nat.le_succ _, Nat.le_refl _, Nat.le_add_right _ _, by omega, fun res hc hs k => ?_⟩
    refine q_W_law_714 _ (Nat.le_trans (Nat.le_succ _) hc) (Nat.le_trans (Nat.le_add_right _ 6) hs) ⟨p1, p2, 1, _, _, _, _, _, ⟨hW, Nat.le_succ _, Nat.le_add_right _ _, hc, hs⟩, p1, p2, r, K, ab_C_up u2, 1, m_thrown hT k1, bb_t rfl (bb_f' (by decide) ?_)⟩
    exact q_W_law_779 _ _ _ hc hs k
theorem s_share (hT : w.1.stackTraces = false) (g : RR I T) (hT9 : T ≤ 1000) (hp : scr w v4) : stp w d 782 v4 I L nc ns T := by
  obtain ⟨p1, p2, p3, p4, p5⟩ := hp
  obtain ⟨S, N, sd, e1, e2, pr, fm, l, hq, ⟨E, h, hh⟩, mn, cb, ib, hn⟩ := RR_Q g hT9
  rcases j_share (d := d) (w := w) (n := 91) (nc := nc) (ns := ns) (L := L) hT hq (w.2.2.2.2.2.1 (v4 + 1).toNatClampNeg) with ⟨kf, r, u1, hM⟩ | ⟨kf, u1, hM⟩
  · have hW : ab_CH w (d + 17) mt_W_share [.ref kx, .int (w.2.2.2.2.2.1 (v4 + 1).toNatClampNeg), .ref ox_out] (I, L, ab_RR, 91, nc, ns) (.inl (some (.int 0)), (I, ab_upL L ox_out 0 (Int32.toInt64 r), ab_RR, 91, nc, ns)) := ab_CH_of (by decide) (Nat.le_of_ble_eq_true rfl) hT (q_W_share_0 _ (Nat.le_refl _) (Nat.le_refl _) (Or.inl ⟨r, u1, rfl⟩))
    obtain ⟨K, m1, k1, u2⟩ := hM (ab_upL L ox_out 0 (Int32.toInt64 r)) 91 nc ns
    refine ⟨K, ab_upL L ox_out 0 (Int32.toInt64 r), nc, ns, RR_q (Nat.le_succ T) kf m1 g, Nat.le_refl _, Nat.le_succ _, Nat.le_refl _, Nat.le_add_right _ _, fun res hc hs k => ?_⟩
    refine q_W_law_782 _ hc hs ⟨p1, 0, _, _, _, _, _, ⟨hW, Nat.le_refl _, Nat.le_refl _, hc, hs⟩, p1, r, K, ab_C_up u2, 0, m_thrown hT k1, bb_t rfl (bb_t' rfl (bb_t ?_ ?_))⟩
    · rw [show (ab_upL L ox_out 0 (Int32.toInt64 r)) ox_out 0 = Int32.toInt64 r from by rw [ab_upL_row, ab_row_eq, pk_uLs]]
      exact lg_0 _
    · exact q_W_law_835 _ _ _ hc hs k
  · have hW : ab_CH w (d + 17) mt_W_share [.ref kx, .int (w.2.2.2.2.2.1 (v4 + 1).toNatClampNeg), .ref ox_out] (I, L, ab_RR, 91, nc, ns) (.inl (some (.int 1)), (I, L, ab_RR, 92, nc + 1, ns + 6)) := ab_CH_of (by decide) (Nat.le_of_ble_eq_true rfl) hT (q_W_share_0 _ (Nat.le_add_right _ _) (Nat.le_add_right _ _) (Or.inr ⟨u1, ⟨Nat.le_refl _, Nat.le_refl _⟩, rfl⟩))
    obtain ⟨r, K, m1, k1, u2⟩ := hM L 91 (nc + 1) (ns + 6)
    refine ⟨K, L, nc + 1, ns + 6, RR_q (Nat.le_succ T) kf m1 g, Nat.le_succ _, Nat.le_refl _, Nat.le_add_right _ _, by omega, fun res hc hs k => ?_⟩
    refine q_W_law_782 _ (Nat.le_trans (Nat.le_succ _) hc) (Nat.le_trans (Nat.le_add_right _ 6) hs) ⟨p1, 1, _, _, _, _, _, ⟨hW, Nat.le_succ _, Nat.le_add_right _ _, hc, hs⟩, p1, r, K, ab_C_up u2, 1, m_thrown hT k1, bb_t rfl (bb_f' (by decide) ?_)⟩
    exact q_W_law_835 _ _ _ hc hs k
theorem s_group (hT : w.1.stackTraces = false) (g : RR I T) (hT9 : T ≤ 1000) (hp : scr w v4) : stp w d 838 v4 I L nc ns T := by
  obtain ⟨p1, p2, p3, p4, p5⟩ := hp
  obtain ⟨S, N, sd, e1, e2, pr, fm, l, hq, ⟨E, h, hh⟩, mn, cb, ib, hn⟩ := RR_Q g hT9
  rcases j_group (d := d) (w := w) (n := 91) (nc := nc) (ns := ns) (L := L) hT hq (w.2.2.2.2.2.1 (v4 + 1).toNatClampNeg) (w.2.2.2.2.2.1 (v4 + 2).toNatClampNeg) with ⟨J, kf, r, u1, hM⟩ | ⟨kf, u1, hM⟩ | ⟨kf, u1, hM⟩
  · have hW : ab_CH w (d + 17) mt_W_group [.ref kx, .int (w.2.2.2.2.2.1 (v4 + 1).toNatClampNeg), .int (w.2.2.2.2.2.1 (v4 + 2).toNatClampNeg), .ref ox_out] (I, L, ab_RR, 91, nc, ns) (.inl (some (.int 0)), (J, ab_upL L ox_out 0 (Int32.toInt64 r), ab_RR, 91, nc, ns)) := ab_CH_of (by decide) (Nat.le_of_ble_eq_true rfl) hT (q_W_group_0 _ _ (Nat.le_refl _) (Nat.le_refl _) (Or.inl ⟨r, J, u1, rfl⟩))
    obtain ⟨K, m1, k1, u2⟩ := hM (ab_upL L ox_out 0 (Int32.toInt64 r)) 91 nc ns
    refine ⟨K, ab_upL L ox_out 0 (Int32.toInt64 r), nc, ns, RR_q (Nat.le_succ T) kf m1 g, Nat.le_refl _, Nat.le_succ _, Nat.le_refl _, Nat.le_add_right _ _, fun res hc hs k => ?_⟩
    refine q_W_law_838 _ hc hs ⟨p1, p2, 0, _, _, _, _, _, ⟨hW, Nat.le_refl _, Nat.le_refl _, hc, hs⟩, p1, p2, r, K, ab_C_up u2, 0, m_thrown hT k1, bb_t rfl (bb_t' rfl (bb_t ?_ ?_))⟩
    · rw [show (ab_upL L ox_out 0 (Int32.toInt64 r)) ox_out 0 = Int32.toInt64 r from by rw [ab_upL_row, ab_row_eq, pk_uLs]]
      exact lg_0 _
    · exact q_W_law_903 _ _ _ hc hs k
  · have hW : ab_CH w (d + 17) mt_W_group [.ref kx, .int (w.2.2.2.2.2.1 (v4 + 1).toNatClampNeg), .int (w.2.2.2.2.2.1 (v4 + 2).toNatClampNeg), .ref ox_out] (I, L, ab_RR, 91, nc, ns) (.inl (some (.int 1)), (I, L, ab_RR, 92, nc + 1, ns + 6)) := ab_CH_of (by decide) (Nat.le_of_ble_eq_true rfl) hT (q_W_group_0 _ _ (Nat.le_add_right _ _) (Nat.le_add_right _ _) (Or.inr (Or.inl ⟨u1, ⟨Nat.le_refl _, Nat.le_refl _⟩, rfl⟩)))
    obtain ⟨r, K, m1, k1, u2⟩ := hM L 91 (nc + 1) (ns + 6)
    refine ⟨K, L, nc + 1, ns + 6, RR_q (Nat.le_succ T) kf m1 g, Nat.le_succ _, Nat.le_refl _, Nat.le_add_right _ _, by omega, fun res hc hs k => ?_⟩
    refine q_W_law_838 _ (Nat.le_trans (Nat.le_succ _) hc) (Nat.le_trans (Nat.le_add_right _ 6) hs) ⟨p1, p2, 1, _, _, _, _, _, ⟨hW, Nat.le_succ _, Nat.le_add_right _ _, hc, hs⟩, p1, p2, r, K, ab_C_up u2, 1, m_thrown hT k1, bb_t rfl (bb_f' (by decide) ?_)⟩
    exact q_W_law_903 _ _ _ hc hs k
  · have hW : ab_CH w (d + 17) mt_W_group [.ref kx, .int (w.2.2.2.2.2.1 (v4 + 1).toNatClampNeg), .int (w.2.2.2.2.2.1 (v4 + 2).toNatClampNeg), .ref ox_out] (I, L, ab_RR, 91, nc, ns) (.inl (some (.int 2)), (I, L, ab_RR, 92, nc + 1, ns + 6)) := ab_CH_of (by decide) (Nat.le_of_ble_eq_true rfl) hT (q_W_group_0 _ _ (Nat.le_add_right _ _) (Nat.le_add_right _ _) (Or.inr (Or.inr ⟨u1, ⟨Nat.le_refl _, Nat.le_refl _⟩, rfl⟩)))
    obtain ⟨r, K, m1, k1, u2⟩ := hM L 91 (nc + 1) (ns + 6)
    refine ⟨K, L, nc + 1, ns + 6, RR_q (Nat.le_succ T) kf m1 g, Nat.le_succ _, Nat.le_refl _, Nat.le_add_right _ _, by omega, fun res hc hs k => ?_⟩
    refine q_W_law_838 _ (Nat.le_trans (Nat.le_succ _) hc) (Nat.le_trans (Nat.le_add_right _ 6) hs) ⟨p1, p2, 2, _, _, _, _, _, ⟨hW, Nat.le_succ _, Nat.le_add_right _ _, hc, hs⟩, p1, p2, r, K, ab_C_up u2, 2, m_thrown hT k1, bb_t rfl (bb_f' (by decide) ?_)⟩
    exact q_W_law_903 _ _ _ hc hs k
theorem s_without (hT : w.1.stackTraces = false) (g : RR I T) (hT9 : T ≤ 1000) (hp : scr w v4) : stp w d 906 v4 I L nc ns T := by
  obtain ⟨p1, p2, p3, p4, p5⟩ := hp
  obtain ⟨S, N, sd, e1, e2, pr, fm, l, hq, ⟨E, h, hh⟩, mn, cb, ib, hn⟩ := RR_Q g hT9
  rcases j_without (d := d) (w := w) (n := 91) (nc := nc) (ns := ns) (L := L) hT hq (w.2.2.2.2.2.1 (v4 + 1).toNatClampNeg) (w.2.2.2.2.2.1 (v4 + 2).toNatClampNeg) with ⟨J, kf, r, u1, hM⟩ | ⟨J, kf, u1, hM⟩
  · have hW : ab_CH w (d + 17) mt_W_without [.ref kx, .int (w.2.2.2.2.2.1 (v4 + 1).toNatClampNeg), .int (w.2.2.2.2.2.1 (v4 + 2).toNatClampNeg), .ref ox_out] (I, L, ab_RR, 91, nc, ns) (.inl (some (.int 0)), (J, ab_upL L ox_out 0 (Int32.toInt64 r), ab_RR, 91, nc, ns)) := ab_CH_of (by decide) (Nat.le_of_ble_eq_true rfl) hT (q_W_without_0x _ _ (Nat.le_refl _) (Nat.le_refl _) (Or.inl ⟨r, J, u1, rfl⟩))
    obtain ⟨K, m1, k1, u2⟩ := hM (ab_upL L ox_out 0 (Int32.toInt64 r)) 91 nc ns
    refine ⟨K, ab_upL L ox_out 0 (Int32.toInt64 r), nc, ns, RR_q (Nat.le_succ T) kf m1 g, Nat.le_refl _, Nat.le_succ _, Nat.le_refl _, Nat.le_add_right _ _, fun res hc hs k => ?_⟩
    refine q_W_law_906 _ hc hs ⟨p1, p2, 0, _, _, _, _, _, ⟨hW, Nat.le_refl _, Nat.le_refl _, hc, hs⟩, p1, p2, r, K, ab_C_up u2, 0, m_thrown hT k1, bb_t rfl (bb_t' rfl (bb_t ?_ ?_))⟩
    · rw [show (ab_upL L ox_out 0 (Int32.toInt64 r)) ox_out 0 = Int32.toInt64 r from by rw [ab_upL_row, ab_row_eq, pk_uLs]]
      exact lg_0 _
    · exact q_W_law_971 _ _ _ hc hs k
  · have hW : ab_CH w (d + 17) mt_W_without [.ref kx, .int (w.2.2.2.2.2.1 (v4 + 1).toNatClampNeg), .int (w.2.2.2.2.2.1 (v4 + 2).toNatClampNeg), .ref ox_out] (I, L, ab_RR, 91, nc, ns) (.inl (some (.int 1)), (J, L, ab_RR, 92, nc + 1, ns + 6)) := ab_CH_of (by decide) (Nat.le_of_ble_eq_true rfl) hT (q_W_without_0x _ _ (Nat.le_add_right _ _) (Nat.le_add_right _ _) (Or.inr ⟨J, u1, ⟨Nat.le_refl _, Nat.le_refl _⟩, rfl⟩))
    obtain ⟨r, K, m1, k1, u2⟩ := hM L 91 (nc + 1) (ns + 6)
    refine ⟨K, L, nc + 1, ns + 6, RR_q (Nat.le_succ T) kf m1 g, Nat.le_succ _, Nat.le_refl _, Nat.le_add_right _ _, by omega, fun res hc hs k => ?_⟩
    refine q_W_law_906 _ (Nat.le_trans (Nat.le_succ _) hc) (Nat.le_trans (Nat.le_add_right _ 6) hs) ⟨p1, p2, 1, _, _, _, _, _, ⟨hW, Nat.le_succ _, Nat.le_add_right _ _, hc, hs⟩, p1, p2, r, K, ab_C_up u2, 1, m_thrown hT k1, bb_t rfl (bb_f' (by decide) ?_)⟩
    exact q_W_law_971 _ _ _ hc hs k
theorem s_told (hT : w.1.stackTraces = false) (g : RR I T) (hT9 : T ≤ 1000) (hp : scr w v4) : stp w d 988 v4 I L nc ns T := by
  obtain ⟨p1, p2, p3, p4, p5⟩ := hp
  obtain ⟨S, N, sd, e1, e2, pr, fm, l, hq, ⟨E, h, hh⟩, mn, cb, ib, hn⟩ := RR_Q g hT9
  rcases j_told (d := d) (w := w) (n := 91) (nc := nc) (ns := ns) (L := L) hT hq (w.2.2.2.2.2.1 (v4 + 1).toNatClampNeg) with ⟨J, kf, r, u1, hM⟩ | ⟨J, kf, u1, hM⟩
  · have hW : ab_CH w (d + 17) mt_W_told [.ref kx, .int (w.2.2.2.2.2.1 (v4 + 1).toNatClampNeg), .ref ox_out] (I, L, ab_RR, 91, nc, ns) (.inl (some (.int 0)), (J, ab_upL L ox_out 0 (Int32.toInt64 r), ab_RR, 91, nc, ns)) := ab_CH_of (by decide) (Nat.le_of_ble_eq_true rfl) hT (q_W_told_0x _ (Nat.le_refl _) (Nat.le_refl _) (Or.inl ⟨r, J, u1, rfl⟩))
    obtain ⟨K, m1, k1, u2⟩ := hM (ab_upL L ox_out 0 (Int32.toInt64 r)) 91 nc ns
    refine ⟨K, ab_upL L ox_out 0 (Int32.toInt64 r), nc, ns, RR_q (Nat.le_succ T) kf m1 g, Nat.le_refl _, Nat.le_succ _, Nat.le_refl _, Nat.le_add_right _ _, fun res hc hs k => ?_⟩
    refine q_W_law_988 _ hc hs ⟨p1, 0, _, _, _, _, _, ⟨hW, Nat.le_refl _, Nat.le_refl _, hc, hs⟩, p1, r, K, ab_C_up u2, 0, m_thrown hT k1, bb_t rfl (bb_t' rfl (bb_t ?_ ?_))⟩
    · rw [show (ab_upL L ox_out 0 (Int32.toInt64 r)) ox_out 0 = Int32.toInt64 r from by rw [ab_upL_row, ab_row_eq, pk_uLs]]
      exact lg_0 _
    · exact q_W_law_1041 _ _ _ hc hs k
  · have hW : ab_CH w (d + 17) mt_W_told [.ref kx, .int (w.2.2.2.2.2.1 (v4 + 1).toNatClampNeg), .ref ox_out] (I, L, ab_RR, 91, nc, ns) (.inl (some (.int 1)), (J, L, ab_RR, 92, nc + 1, ns + 6)) := ab_CH_of (by decide) (Nat.le_of_ble_eq_true rfl) hT (q_W_told_0x _ (Nat.le_add_right _ _) (Nat.le_add_right _ _) (Or.inr ⟨J, u1, ⟨Nat.le_refl _, Nat.le_refl _⟩, rfl⟩))
    obtain ⟨r, K, m1, k1, u2⟩ := hM L 91 (nc + 1) (ns + 6)
    refine ⟨K, L, nc + 1, ns + 6, RR_q (Nat.le_succ T) kf m1 g, Nat.le_succ _, Nat.le_refl _, Nat.le_add_right _ _, by omega, fun res hc hs k => ?_⟩
    refine q_W_law_988 _ (Nat.le_trans (Nat.le_succ _) hc) (Nat.le_trans (Nat.le_add_right _ 6) hs) ⟨p1, 1, _, _, _, _, _, ⟨hW, Nat.le_succ _, Nat.le_add_right _ _, hc, hs⟩, p1, r, K, ab_C_up u2, 1, m_thrown hT k1, bb_t rfl (bb_f' (by decide) ?_)⟩
    exact q_W_law_1041 _ _ _ hc hs k
theorem s_joined (hT : w.1.stackTraces = false) (g : RR I T) (hT9 : T ≤ 1000) (hp : scr w v4) : stp w d 1044 v4 I L nc ns T := by
  obtain ⟨p1, p2, p3, p4, p5⟩ := hp
  obtain ⟨S, N, sd, e1, e2, pr, fm, l, hq, ⟨E, h, hh⟩, mn, cb, ib, hn⟩ := RR_Q g hT9
  rcases j_joined (d := d) (w := w) (n := 91) (nc := nc) (ns := ns) (L := L) hT hq (w.2.2.2.2.2.1 (v4 + 1).toNatClampNeg) with ⟨J, kf, r, u1, hM⟩ | ⟨kf, u1, hM⟩
  · have hW : ab_CH w (d + 17) mt_W_joined [.ref kx, .int (w.2.2.2.2.2.1 (v4 + 1).toNatClampNeg), .ref ox_out] (I, L, ab_RR, 91, nc, ns) (.inl (some (.int 0)), (J, ab_upL L ox_out 0 (Int32.toInt64 r), ab_RR, 91, nc, ns)) := ab_CH_of (by decide) (Nat.le_of_ble_eq_true rfl) hT (q_W_joined_0 _ (Nat.le_refl _) (Nat.le_refl _) (Or.inl ⟨r, J, u1, rfl⟩))
    obtain ⟨K, m1, k1, u2⟩ := hM (ab_upL L ox_out 0 (Int32.toInt64 r)) 91 nc ns
    refine ⟨K, ab_upL L ox_out 0 (Int32.toInt64 r), nc, ns, RR_q (Nat.le_succ T) kf m1 g, Nat.le_refl _, Nat.le_succ _, Nat.le_refl _, Nat.le_add_right _ _, fun res hc hs k => ?_⟩
    refine q_W_law_1044 _ hc hs ⟨p1, 0, _, _, _, _, _, ⟨hW, Nat.le_refl _, Nat.le_refl _, hc, hs⟩, p1, r, K, ab_C_up u2, 0, m_thrown hT k1, bb_t rfl (bb_t' rfl (bb_t ?_ ?_))⟩
    · rw [show (ab_upL L ox_out 0 (Int32.toInt64 r)) ox_out 0 = Int32.toInt64 r from by rw [ab_upL_row, ab_row_eq, pk_uLs]]
      exact lg_0 _
    · exact q_W_law_1097 _ _ _ hc hs k
  · have hW : ab_CH w (d + 17) mt_W_joined [.ref kx, .int (w.2.2.2.2.2.1 (v4 + 1).toNatClampNeg), .ref ox_out] (I, L, ab_RR, 91, nc, ns) (.inl (some (.int 1)), (I, L, ab_RR, 92, nc + 1, ns + 6)) := ab_CH_of (by decide) (Nat.le_of_ble_eq_true rfl) hT (q_W_joined_0 _ (Nat.le_add_right _ _) (Nat.le_add_right _ _) (Or.inr ⟨u1, ⟨Nat.le_refl _, Nat.le_refl _⟩, rfl⟩))
    obtain ⟨r, K, m1, k1, u2⟩ := hM L 91 (nc + 1) (ns + 6)
    refine ⟨K, L, nc + 1, ns + 6, RR_q (Nat.le_succ T) kf m1 g, Nat.le_succ _, Nat.le_refl _, Nat.le_add_right _ _, by omega, fun res hc hs k => ?_⟩
    refine q_W_law_1044 _ (Nat.le_trans (Nat.le_succ _) hc) (Nat.le_trans (Nat.le_add_right _ 6) hs) ⟨p1, 1, _, _, _, _, _, ⟨hW, Nat.le_succ _, Nat.le_add_right _ _, hc, hs⟩, p1, r, K, ab_C_up u2, 1, m_thrown hT k1, bb_t rfl (bb_f' (by decide) ?_)⟩
    exact q_W_law_1097 _ _ _ hc hs k
theorem s_swap (hT : w.1.stackTraces = false) (g : RR I T) (hT9 : T ≤ 1000) (hp : scr w v4) : stp w d 1100 v4 I L nc ns T := by
  obtain ⟨p1, p2, p3, p4, p5⟩ := hp
  obtain ⟨S, N, sd, e1, e2, pr, fm, l, hq, ⟨E, h, hh⟩, mn, cb, ib, hn⟩ := RR_Q g hT9
  rcases j_swap (d := d) (w := w) (n := 91) (nc := nc) (ns := ns) (L := L) hT hh (w.2.2.2.2.2.1 (v4 + 1).toNatClampNeg) (w.2.2.2.2.2.1 (v4 + 2).toNatClampNeg) with ⟨kf, r, u1, hM⟩ | ⟨kf, u1, hM⟩
  · have hW : ab_CH w (d + 17) mt_W_swap [.ref kx, .int (w.2.2.2.2.2.1 (v4 + 1).toNatClampNeg), .int (w.2.2.2.2.2.1 (v4 + 2).toNatClampNeg), .ref ox_out] (I, L, ab_RR, 91, nc, ns) (.inl (some (.int 0)), (I, ab_upL L ox_out 0 (Int32.toInt64 r), ab_RR, 91, nc, ns)) := ab_CH_of (by decide) (Nat.le_of_ble_eq_true rfl) hT (q_W_swap_0 _ _ (Nat.le_refl _) (Nat.le_refl _) (Or.inl ⟨r, u1, rfl⟩))
    obtain ⟨K, m1, k1, u2⟩ := hM (ab_upL L ox_out 0 (Int32.toInt64 r)) 91 nc ns
    refine ⟨K, ab_upL L ox_out 0 (Int32.toInt64 r), nc, ns, RR_q (Nat.le_succ T) kf m1 g, Nat.le_refl _, Nat.le_succ _, Nat.le_refl _, Nat.le_add_right _ _, fun res hc hs k => ?_⟩
    refine q_W_law_1100 _ hc hs ⟨p1, p2, 0, _, _, _, _, _, ⟨hW, Nat.le_refl _, Nat.le_refl _, hc, hs⟩, p1, p2, r, K, ab_C_up u2, 0, m_thrown hT k1, bb_t rfl (bb_t' rfl (bb_t ?_ ?_))⟩
    · rw [show (ab_upL L ox_out 0 (Int32.toInt64 r)) ox_out 0 = Int32.toInt64 r from by rw [ab_upL_row, ab_row_eq, pk_uLs]]
      exact lg_0 _
    · exact q_W_law_1165 _ _ _ hc hs k
  · have hW : ab_CH w (d + 17) mt_W_swap [.ref kx, .int (w.2.2.2.2.2.1 (v4 + 1).toNatClampNeg), .int (w.2.2.2.2.2.1 (v4 + 2).toNatClampNeg), .ref ox_out] (I, L, ab_RR, 91, nc, ns) (.inl (some (.int 1)), (I, L, ab_RR, 92, nc + 1, ns + 6)) := ab_CH_of (by decide) (Nat.le_of_ble_eq_true rfl) hT (q_W_swap_0 _ _ (Nat.le_add_right _ _) (Nat.le_add_right _ _) (Or.inr ⟨u1, ⟨Nat.le_refl _, Nat.le_refl _⟩, rfl⟩))
    obtain ⟨r, K, m1, k1, u2⟩ := hM L 91 (nc + 1) (ns + 6)
    refine ⟨K, L, nc + 1, ns + 6, RR_q (Nat.le_succ T) kf m1 g, Nat.le_succ _, Nat.le_refl _, Nat.le_add_right _ _, by omega, fun res hc hs k => ?_⟩
    refine q_W_law_1100 _ (Nat.le_trans (Nat.le_succ _) hc) (Nat.le_trans (Nat.le_add_right _ 6) hs) ⟨p1, p2, 1, _, _, _, _, _, ⟨hW, Nat.le_succ _, Nat.le_add_right _ _, hc, hs⟩, p1, p2, r, K, ab_C_up u2, 1, m_thrown hT k1, bb_t rfl (bb_f' (by decide) ?_)⟩
    exact q_W_law_1165 _ _ _ hc hs k
theorem s_fits (hT : w.1.stackTraces = false) (g : RR I T) (hT9 : T ≤ 1000) (hp : scr w v4) : stp w d 1419 v4 I L nc ns T := by
  obtain ⟨p1, p2, p3, p4, p5⟩ := hp
  obtain ⟨S, N, sd, e1, e2, pr, fm, l, hq, ⟨E, h, hh⟩, mn, cb, ib, hn⟩ := RR_Q g hT9
  rcases j_fits (d := d) (w := w) (n := 91) (nc := nc) (ns := ns) (L := L) hT hq hn (w.2.2.2.2.2.1 (v4 + 1).toNatClampNeg) (w.2.2.2.2.2.1 (v4 + 2).toNatClampNeg) with ⟨kf, r, u1, hM⟩ | ⟨kf, u1, hM⟩ | ⟨kf, u1, hM⟩
  · have hW : ab_CH w (d + 17) mt_W_fits [.ref kx, .int (w.2.2.2.2.2.1 (v4 + 1).toNatClampNeg), .int (w.2.2.2.2.2.1 (v4 + 2).toNatClampNeg), .ref ox_out] (I, L, ab_RR, 91, nc, ns) (.inl (some (.int 0)), (I, ab_upL L ox_out 0 (Int32.toInt64 r), ab_RR, 91, nc, ns)) := ab_CH_of (by decide) (Nat.le_of_ble_eq_true rfl) hT (q_W_fits_0 _ _ (Nat.le_refl _) (Nat.le_refl _) (Or.inl ⟨r, u1, rfl⟩))
    obtain ⟨K, m1, k1, u2⟩ := hM (ab_upL L ox_out 0 (Int32.toInt64 r)) 91 nc ns
    refine ⟨K, ab_upL L ox_out 0 (Int32.toInt64 r), nc, ns, RR_q (Nat.le_succ T) kf m1 g, Nat.le_refl _, Nat.le_succ _, Nat.le_refl _, Nat.le_add_right _ _, fun res hc hs k => ?_⟩
    refine q_W_law_1419 _ hc hs ⟨p1, p2, 0, _, _, _, _, _, ⟨hW, Nat.le_refl _, Nat.le_refl _, hc, hs⟩, p1, p2, r, K, ab_C_up u2, 0, m_thrown hT k1, bb_t rfl (bb_t' rfl (bb_t ?_ ?_))⟩
    · rw [show (ab_upL L ox_out 0 (Int32.toInt64 r)) ox_out 0 = Int32.toInt64 r from by rw [ab_upL_row, ab_row_eq, pk_uLs]]
      exact lg_0 _
    · exact q_W_law_1484 _ _ _ hc hs k
  · have hW : ab_CH w (d + 17) mt_W_fits [.ref kx, .int (w.2.2.2.2.2.1 (v4 + 1).toNatClampNeg), .int (w.2.2.2.2.2.1 (v4 + 2).toNatClampNeg), .ref ox_out] (I, L, ab_RR, 91, nc, ns) (.inl (some (.int 1)), (I, L, ab_RR, 92, nc + 1, ns + 6)) := ab_CH_of (by decide) (Nat.le_of_ble_eq_true rfl) hT (q_W_fits_0 _ _ (Nat.le_add_right _ _) (Nat.le_add_right _ _) (Or.inr (Or.inl ⟨u1, ⟨Nat.le_refl _, Nat.le_refl _⟩, rfl⟩)))
    obtain ⟨r, K, m1, k1, u2⟩ := hM L 91 (nc + 1) (ns + 6)
    refine ⟨K, L, nc + 1, ns + 6, RR_q (Nat.le_succ T) kf m1 g, Nat.le_succ _, Nat.le_refl _, Nat.le_add_right _ _, by omega, fun res hc hs k => ?_⟩
    refine q_W_law_1419 _ (Nat.le_trans (Nat.le_succ _) hc) (Nat.le_trans (Nat.le_add_right _ 6) hs) ⟨p1, p2, 1, _, _, _, _, _, ⟨hW, Nat.le_succ _, Nat.le_add_right _ _, hc, hs⟩, p1, p2, r, K, ab_C_up u2, 1, m_thrown hT k1, bb_t rfl (bb_f' (by decide) ?_)⟩
    exact q_W_law_1484 _ _ _ hc hs k
  · have hW : ab_CH w (d + 17) mt_W_fits [.ref kx, .int (w.2.2.2.2.2.1 (v4 + 1).toNatClampNeg), .int (w.2.2.2.2.2.1 (v4 + 2).toNatClampNeg), .ref ox_out] (I, L, ab_RR, 91, nc, ns) (.inl (some (.int 2)), (I, L, ab_RR, 92, nc + 1, ns + 6)) := ab_CH_of (by decide) (Nat.le_of_ble_eq_true rfl) hT (q_W_fits_0 _ _ (Nat.le_add_right _ _) (Nat.le_add_right _ _) (Or.inr (Or.inr ⟨u1, ⟨Nat.le_refl _, Nat.le_refl _⟩, rfl⟩)))
    obtain ⟨r, K, m1, k1, u2⟩ := hM L 91 (nc + 1) (ns + 6)
    refine ⟨K, L, nc + 1, ns + 6, RR_q (Nat.le_succ T) kf m1 g, Nat.le_succ _, Nat.le_refl _, Nat.le_add_right _ _, by omega, fun res hc hs k => ?_⟩
    refine q_W_law_1419 _ (Nat.le_trans (Nat.le_succ _) hc) (Nat.le_trans (Nat.le_add_right _ 6) hs) ⟨p1, p2, 2, _, _, _, _, _, ⟨hW, Nat.le_succ _, Nat.le_add_right _ _, hc, hs⟩, p1, p2, r, K, ab_C_up u2, 2, m_thrown hT k1, bb_t rfl (bb_f' (by decide) ?_)⟩
    exact q_W_law_1484 _ _ _ hc hs k
theorem s_look (hT : w.1.stackTraces = false) (g : RR I T) (hT9 : T ≤ 1000) (hp : scr w v4) : stp w d 1487 v4 I L nc ns T := by
  obtain ⟨p1, p2, p3, p4, p5⟩ := hp
  obtain ⟨S, N, sd, e1, e2, pr, fm, l, hq, ⟨E, h, hh⟩, mn, cb, ib, hn⟩ := RR_Q g hT9
  rcases j_look (d := d) (w := w) (n := 91) (nc := nc) (ns := ns) (L := L) hT hq hn (w.2.2.2.2.2.1 (v4 + 1).toNatClampNeg) with ⟨kf, r, u1, hM⟩ | ⟨kf, u1, hM⟩ | ⟨kf, u1, hM⟩
  · have hW : ab_CH w (d + 17) mt_W_look [.ref kx, .int (w.2.2.2.2.2.1 (v4 + 1).toNatClampNeg), .ref ox_out] (I, L, ab_RR, 91, nc, ns) (.inl (some (.int 0)), (I, ab_upL L ox_out 0 (Int32.toInt64 r), ab_RR, 91, nc, ns)) := ab_CH_of (by decide) (Nat.le_of_ble_eq_true rfl) hT (q_W_look_0 _ (Nat.le_refl _) (Nat.le_refl _) (Or.inl ⟨r, u1, rfl⟩))
    obtain ⟨K, m1, k1, u2⟩ := hM (ab_upL L ox_out 0 (Int32.toInt64 r)) 91 nc ns
    refine ⟨K, ab_upL L ox_out 0 (Int32.toInt64 r), nc, ns, RR_q (Nat.le_succ T) kf m1 g, Nat.le_refl _, Nat.le_succ _, Nat.le_refl _, Nat.le_add_right _ _, fun res hc hs k => ?_⟩
    refine q_W_law_1487 _ hc hs ⟨p1, 0, _, _, _, _, _, ⟨hW, Nat.le_refl _, Nat.le_refl _, hc, hs⟩, p1, r, K, ab_C_up u2, 0, m_thrown hT k1, bb_t rfl (bb_t' rfl (bb_t ?_ ?_))⟩
    · rw [show (ab_upL L ox_out 0 (Int32.toInt64 r)) ox_out 0 = Int32.toInt64 r from by rw [ab_upL_row, ab_row_eq, pk_uLs]]
      exact lg_0 _
    · exact q_W_law_1540 _ _ _ hc hs k
  · have hW : ab_CH w (d + 17) mt_W_look [.ref kx, .int (w.2.2.2.2.2.1 (v4 + 1).toNatClampNeg), .ref ox_out] (I, L, ab_RR, 91, nc, ns) (.inl (some (.int 1)), (I, L, ab_RR, 92, nc + 1, ns + 6)) := ab_CH_of (by decide) (Nat.le_of_ble_eq_true rfl) hT (q_W_look_0 _ (Nat.le_add_right _ _) (Nat.le_add_right _ _) (Or.inr (Or.inl ⟨u1, ⟨Nat.le_refl _, Nat.le_refl _⟩, rfl⟩)))
    obtain ⟨r, K, m1, k1, u2⟩ := hM L 91 (nc + 1) (ns + 6)
    refine ⟨K, L, nc + 1, ns + 6, RR_q (Nat.le_succ T) kf m1 g, Nat.le_succ _, Nat.le_refl _, Nat.le_add_right _ _, by omega, fun res hc hs k => ?_⟩
    refine q_W_law_1487 _ (Nat.le_trans (Nat.le_succ _) hc) (Nat.le_trans (Nat.le_add_right _ 6) hs) ⟨p1, 1, _, _, _, _, _, ⟨hW, Nat.le_succ _, Nat.le_add_right _ _, hc, hs⟩, p1, r, K, ab_C_up u2, 1, m_thrown hT k1, bb_t rfl (bb_f' (by decide) ?_)⟩
    exact q_W_law_1540 _ _ _ hc hs k
  · have hW : ab_CH w (d + 17) mt_W_look [.ref kx, .int (w.2.2.2.2.2.1 (v4 + 1).toNatClampNeg), .ref ox_out] (I, L, ab_RR, 91, nc, ns) (.inl (some (.int 2)), (I, L, ab_RR, 92, nc + 1, ns + 6)) := ab_CH_of (by decide) (Nat.le_of_ble_eq_true rfl) hT (q_W_look_0 _ (Nat.le_add_right _ _) (Nat.le_add_right _ _) (Or.inr (Or.inr ⟨u1, ⟨Nat.le_refl _, Nat.le_refl _⟩, rfl⟩)))
    obtain ⟨r, K, m1, k1, u2⟩ := hM L 91 (nc + 1) (ns + 6)
    refine ⟨K, L, nc + 1, ns + 6, RR_q (Nat.le_succ T) kf m1 g, Nat.le_succ _, Nat.le_refl _, Nat.le_add_right _ _, by omega, fun res hc hs k => ?_⟩
    refine q_W_law_1487 _ (Nat.le_trans (Nat.le_succ _) hc) (Nat.le_trans (Nat.le_add_right _ 6) hs) ⟨p1, 2, _, _, _, _, _, ⟨hW, Nat.le_succ _, Nat.le_add_right _ _, hc, hs⟩, p1, r, K, ab_C_up u2, 2, m_thrown hT k1, bb_t rfl (bb_f' (by decide) ?_)⟩
    exact q_W_law_1540 _ _ _ hc hs k
theorem s_years (hT : w.1.stackTraces = false) (g : RR I T) (hT9 : T ≤ 1000) (hp : scr w v4) : stp w d 1554 v4 I L nc ns T := by
  obtain ⟨p1, p2, p3, p4, p5⟩ := hp
  rcases j_years (d := d) (w := w) (n := 91) (nc := nc) (ns := ns) (L := L) hT g hT9 (w.2.2.2.2.2.1 (v4 + 1).toNatClampNeg) (w.2.2.2.2.2.1 (v4 + 2).toNatClampNeg) (w.2.2.2.2.2.1 (v4 + 3).toNatClampNeg) with ⟨r, J, u1, hM⟩ | ⟨kf, u1, hM⟩ | ⟨kf, u1, hM⟩
  · have hW : ab_CH w (d + 17) mt_W_years [.ref kx, .int (w.2.2.2.2.2.1 (v4 + 1).toNatClampNeg), .int (w.2.2.2.2.2.1 (v4 + 2).toNatClampNeg), .int (w.2.2.2.2.2.1 (v4 + 3).toNatClampNeg), .ref ox_out] (I, L, ab_RR, 91, nc, ns) (.inl (some (.int 0)), (J, ab_upL L ox_out 0 (Int32.toInt64 r), ab_RR, 91, nc, ns)) := ab_CH_of (by decide) (Nat.le_of_ble_eq_true rfl) hT (q_W_years_0 _ _ _ (Nat.le_refl _) (Nat.le_refl _) (Or.inl ⟨r, J, u1, rfl⟩))
    obtain ⟨K, u2, k1, gK⟩ := hM (ab_upL L ox_out 0 (Int32.toInt64 r)) 91 nc ns
    refine ⟨K, ab_upL L ox_out 0 (Int32.toInt64 r), nc, ns, gK, Nat.le_refl _, Nat.le_succ _, Nat.le_refl _, Nat.le_add_right _ _, fun res hc hs k => ?_⟩
    refine q_W_law_1554 _ hc hs ⟨p1, p2, p3, 0, _, _, _, _, _, ⟨hW, Nat.le_refl _, Nat.le_refl _, hc, hs⟩, p1, p2, p3, r, K, ab_C_up u2, 0, m_thrown hT k1, bb_t rfl (bb_t' rfl (bb_t ?_ ?_))⟩
    · rw [show (ab_upL L ox_out 0 (Int32.toInt64 r)) ox_out 0 = Int32.toInt64 r from by rw [ab_upL_row, ab_row_eq, pk_uLs]]
      exact lg_0 _
    · exact q_W_law_1631 _ _ _ hc hs k
  · have hW : ab_CH w (d + 17) mt_W_years [.ref kx, .int (w.2.2.2.2.2.1 (v4 + 1).toNatClampNeg), .int (w.2.2.2.2.2.1 (v4 + 2).toNatClampNeg), .int (w.2.2.2.2.2.1 (v4 + 3).toNatClampNeg), .ref ox_out] (I, L, ab_RR, 91, nc, ns) (.inl (some (.int 1)), (I, L, ab_RR, 92, nc + 1, ns + 6)) := ab_CH_of (by decide) (Nat.le_of_ble_eq_true rfl) hT (q_W_years_0 _ _ _ (Nat.le_add_right _ _) (Nat.le_add_right _ _) (Or.inr (Or.inl ⟨u1, ⟨Nat.le_refl _, Nat.le_refl _⟩, rfl⟩)))
    obtain ⟨r, K, m1, k1, u2⟩ := hM L 91 (nc + 1) (ns + 6)
    refine ⟨K, L, nc + 1, ns + 6, RR_q (Nat.le_succ T) kf m1 g, Nat.le_succ _, Nat.le_refl _, Nat.le_add_right _ _, by omega, fun res hc hs k => ?_⟩
    refine q_W_law_1554 _ (Nat.le_trans (Nat.le_succ _) hc) (Nat.le_trans (Nat.le_add_right _ 6) hs) ⟨p1, p2, p3, 1, _, _, _, _, _, ⟨hW, Nat.le_succ _, Nat.le_add_right _ _, hc, hs⟩, p1, p2, p3, r, K, ab_C_up u2, 1, m_thrown hT k1, bb_t rfl (bb_f' (by decide) ?_)⟩
    exact q_W_law_1631 _ _ _ hc hs k
  · have hW : ab_CH w (d + 17) mt_W_years [.ref kx, .int (w.2.2.2.2.2.1 (v4 + 1).toNatClampNeg), .int (w.2.2.2.2.2.1 (v4 + 2).toNatClampNeg), .int (w.2.2.2.2.2.1 (v4 + 3).toNatClampNeg), .ref ox_out] (I, L, ab_RR, 91, nc, ns) (.inl (some (.int 2)), (I, L, ab_RR, 92, nc + 1, ns + 6)) := ab_CH_of (by decide) (Nat.le_of_ble_eq_true rfl) hT (q_W_years_0 _ _ _ (Nat.le_add_right _ _) (Nat.le_add_right _ _) (Or.inr (Or.inr ⟨u1, ⟨Nat.le_refl _, Nat.le_refl _⟩, rfl⟩)))
    obtain ⟨r, K, m1, k1, u2⟩ := hM L 91 (nc + 1) (ns + 6)
    refine ⟨K, L, nc + 1, ns + 6, RR_q (Nat.le_succ T) kf m1 g, Nat.le_succ _, Nat.le_refl _, Nat.le_add_right _ _, by omega, fun res hc hs k => ?_⟩
    refine q_W_law_1554 _ (Nat.le_trans (Nat.le_succ _) hc) (Nat.le_trans (Nat.le_add_right _ 6) hs) ⟨p1, p2, p3, 2, _, _, _, _, _, ⟨hW, Nat.le_succ _, Nat.le_add_right _ _, hc, hs⟩, p1, p2, p3, r, K, ab_C_up u2, 2, m_thrown hT k1, bb_t rfl (bb_f' (by decide) ?_)⟩
    exact q_W_law_1631 _ _ _ hc hs k
theorem s_feed (hT : w.1.stackTraces = false) (g : RR I T) (hT9 : T ≤ 1000) (hp : scr w v4) : stp w d 176 v4 I L nc ns T := by
  obtain ⟨p1, p2, p3, p4, p5⟩ := hp
  obtain ⟨r, J, u1, hM⟩ := j_feed (d := d) (w := w) (n := 91) (nc := nc) (ns := ns) (L := L) hT g (w.2.2.2.2.2.1 (v4 + 1).toNatClampNeg) (w.2.2.2.2.2.1 (v4 + 2).toNatClampNeg) (w.2.2.2.2.2.1 (v4 + 3).toNatClampNeg) (w.2.2.2.2.2.1 (v4 + 4).toNatClampNeg) (w.2.2.2.2.2.1 (v4 + 5).toNatClampNeg)
  obtain ⟨K, u2, gK⟩ := hM L 91 nc ns
  refine ⟨K, L, nc, ns, gK, Nat.le_refl _, Nat.le_succ _, Nat.le_refl _, Nat.le_add_right _ _, fun res hc hs k => ?_⟩
  exact q_W_law_176 _ hc hs ⟨p1, p2, p3, p4, p5, r, J, ab_C_up u1, p1, p2, p3, p4, p5, r, K, ab_C_up u2, bb_t rfl k⟩
theorem s_price (hT : w.1.stackTraces = false) (g : RR I T) (hT9 : T ≤ 1000) (hp : scr w v4) : stp w d 1168 v4 I L nc ns T := by
  obtain ⟨p1, p2, p3, p4, p5⟩ := hp
  obtain ⟨r, J, u1, hM⟩ := j_price (d := d) (w := w) (n := 91) (nc := nc) (ns := ns) (L := L) hT g hT9 (w.2.2.2.2.2.1 (v4 + 1).toNatClampNeg) (w.2.2.2.2.2.1 (v4 + 2).toNatClampNeg)
  obtain ⟨K, u2, gK⟩ := hM L 91 nc ns
  refine ⟨K, L, nc, ns, gK, Nat.le_refl _, Nat.le_succ _, Nat.le_refl _, Nat.le_add_right _ _, fun res hc hs k => ?_⟩
  exact q_W_law_1168 _ hc hs ⟨p1, p2, r, J, ab_C_up u1, p1, p2, r, K, ab_C_up u2, bb_t rfl k⟩
theorem s_all (hT : w.1.stackTraces = false) (g : RR I T) (hT9 : T ≤ 1000) (hp : scr w v4) : stp w d 1205 v4 I L nc ns T := by
  obtain ⟨p1, p2, p3, p4, p5⟩ := hp
  obtain ⟨r, J, u1, hM⟩ := j_all (d := d) (w := w) (n := 91) (nc := nc) (ns := ns) (L := L) hT g hT9 (w.2.2.2.2.2.1 (v4 + 1).toNatClampNeg) (w.2.2.2.2.2.1 (v4 + 2).toNatClampNeg)
  obtain ⟨K, u2, gK⟩ := hM L 91 nc ns
  refine ⟨K, L, nc, ns, gK, Nat.le_refl _, Nat.le_succ _, Nat.le_refl _, Nat.le_add_right _ _, fun res hc hs k => ?_⟩
  exact q_W_law_1205 _ hc hs ⟨p1, p2, r, J, ab_C_up u1, p1, p2, r, K, ab_C_up u2, bb_t rfl k⟩
theorem s_breaks (hT : w.1.stackTraces = false) (g : RR I T) (hT9 : T ≤ 1000) (hp : scr w v4) : stp w d 1242 v4 I L nc ns T := by
  obtain ⟨p1, p2, p3, p4, p5⟩ := hp
  obtain ⟨r, J, u1, hM⟩ := j_breaks (d := d) (w := w) (n := 91) (nc := nc) (ns := ns) (L := L) hT g hT9 (w.2.2.2.2.2.1 (v4 + 1).toNatClampNeg)
  obtain ⟨K, u2, gK⟩ := hM L 91 nc ns
  refine ⟨K, L, nc, ns, gK, Nat.le_refl _, Nat.le_succ _, Nat.le_refl _, Nat.le_add_right _ _, fun res hc hs k => ?_⟩
  exact q_W_law_1242 _ hc hs ⟨p1, r, J, ab_C_up u1, p1, r, K, ab_C_up u2, bb_t rfl k⟩
theorem s_mend (hT : w.1.stackTraces = false) (g : RR I T) (hT9 : T ≤ 1000) (hp : scr w v4) : stp w d 1267 v4 I L nc ns T := by
  obtain ⟨p1, p2, p3, p4, p5⟩ := hp
  obtain ⟨r, J, u1, hM⟩ := j_mend (d := d) (w := w) (n := 91) (nc := nc) (ns := ns) (L := L) hT g hT9 (w.2.2.2.2.2.1 (v4 + 1).toNatClampNeg)
  obtain ⟨K, u2, gK⟩ := hM L 91 nc ns
  refine ⟨K, L, nc, ns, gK, Nat.le_refl _, Nat.le_succ _, Nat.le_refl _, Nat.le_add_right _ _, fun res hc hs k => ?_⟩
  exact q_W_law_1267 _ hc hs ⟨p1, r, J, ab_C_up u1, p1, r, K, ab_C_up u2, bb_t rfl k⟩
theorem s_lay (hT : w.1.stackTraces = false) (g : RR I T) (hT9 : T ≤ 1000) (hp : scr w v4) : stp w d 1292 v4 I L nc ns T := by
  obtain ⟨p1, p2, p3, p4, p5⟩ := hp
  obtain ⟨r, J, u1, hM⟩ := j_lay (d := d) (w := w) (n := 91) (nc := nc) (ns := ns) (L := L) hT g hT9 (w.2.2.2.2.2.1 (v4 + 1).toNatClampNeg) (w.2.2.2.2.2.1 (v4 + 2).toNatClampNeg) (w.2.2.2.2.2.1 (v4 + 3).toNatClampNeg) (w.2.2.2.2.2.1 (v4 + 4).toNatClampNeg)
  obtain ⟨K, u2, gK⟩ := hM L 91 nc ns
  refine ⟨K, L, nc, ns, gK, Nat.le_refl _, Nat.le_succ _, Nat.le_refl _, Nat.le_add_right _ _, fun res hc hs k => ?_⟩
  exact q_W_law_1292 _ hc hs ⟨p1, p2, p3, p4, r, J, ab_C_up u1, p1, p2, p3, p4, r, K, ab_C_up u2, bb_t rfl k⟩
theorem s_undo (hT : w.1.stackTraces = false) (g : RR I T) (hT9 : T ≤ 1000) (hp : scr w v4) : stp w d 1353 v4 I L nc ns T := by
  obtain ⟨p1, p2, p3, p4, p5⟩ := hp
  obtain ⟨r, J, u1, hM⟩ := j_undo (d := d) (w := w) (n := 91) (nc := nc) (ns := ns) (L := L) hT g 
  obtain ⟨K, u2, gK⟩ := hM L 91 nc ns
  refine ⟨K, L, nc, ns, gK, Nat.le_refl _, Nat.le_succ _, Nat.le_refl _, Nat.le_add_right _ _, fun res hc hs k => ?_⟩
  exact q_W_law_1353 _ hc hs ⟨r, J, ab_C_up u1, r, K, ab_C_up u2, bb_t rfl k⟩
theorem s_restore (hT : w.1.stackTraces = false) (g : RR I T) (hT9 : T ≤ 1000) (hp : scr w v4) : stp w d 1645 v4 I L nc ns T := by
  obtain ⟨p1, p2, p3, p4, p5⟩ := hp
  obtain ⟨r, J, u1, hM⟩ := j_restore (d := d) (w := w) (n := 91) (nc := nc) (ns := ns) (L := L) hT g 
  obtain ⟨K, u2, gK⟩ := hM L 91 nc ns
  refine ⟨K, L, nc, ns, gK, Nat.le_refl _, Nat.le_succ _, Nat.le_refl _, Nat.le_add_right _ _, fun res hc hs k => ?_⟩
  exact q_W_law_1645 _ hc hs ⟨r, J, ab_C_up u1, r, K, ab_C_up u2, bb_t rfl k⟩
theorem s_fault (hT : w.1.stackTraces = false) (g : RR I T) : stp w d 305 v4 I L nc ns T := by
  obtain ⟨S, h1, h2, h3⟩ := id g
  refine ⟨ab_up I mx 1 0, L, nc, ns, RR_q (Nat.le_succ T) kfr_refl mgr_c g, Nat.le_refl _, Nat.le_succ _, Nat.le_refl _, Nat.le_add_right _ _, fun res hc hs k => ?_⟩
  refine q_W_law_305 _ hc hs ⟨I kx 2, ?_, I mx 17, ab_up I mx 1 0, ?_, bb_t h2.1 k⟩
  · refine ab_C_of (by decide) rfl (Nat.le_of_ble_eq_true rfl) hT ?_
    refine q_K_fault_0 (Nat.le_refl _) (Nat.le_refl _) ?_
    rfl
  · refine ab_C_of (by decide) rfl (Nat.le_of_ble_eq_true rfl) hT ?_
    refine q_M_fault_0 (Nat.le_refl _) (Nat.le_refl _) ?_
    rfl
theorem s_alike (hT : w.1.stackTraces = false) (g : RR I T) (hT9 : T ≤ 1000) : stp w d 974 v4 I L nc ns T := by
  obtain ⟨r, J, L2, u1, K, L3, u2, gK⟩ := j_alike (d := d) (w := w) (n := 91) (nc := nc) (ns := ns) (L := L) hT g hT9
  refine ⟨K, L3, nc, ns, gK, Nat.le_refl _, Nat.le_succ _, Nat.le_refl _, Nat.le_add_right _ _, fun res hc hs k => ?_⟩
  exact q_W_law_974 _ hc hs ⟨r, J, L2, ab_C_up u1, r, K, L3, ab_C_up u2, bb_t (lg_0 r) k⟩
theorem s_note (hT : w.1.stackTraces = false) (g : RR I T) (hp : scr w v4) : stp w d 1366 v4 I L nc ns T := by
  obtain ⟨p1, p2, p3, p4, p5⟩ := hp
  by_cases e : (w.2.2.2.2.2.1 (v4 + 2).toNatClampNeg) = 0
  · obtain ⟨r, J, u1, hM⟩ := j_note (d := d) (w := w) (n := 91) (nc := nc) (ns := ns) (L := L) hT g (w.2.2.2.2.2.1 (v4 + 1).toNatClampNeg) 0
    obtain ⟨K, u2, gK⟩ := hM L 91 nc ns
    refine ⟨K, L, nc, ns, gK, Nat.le_refl _, Nat.le_succ _, Nat.le_refl _, Nat.le_add_right _ _, fun res hc hs k => ?_⟩
    refine q_W_law_1366 _ hc hs ⟨p1, p2, bb_t e ?_⟩
    refine q_W_law_1387 _ _ _ hc hs ⟨r, J, ab_C_up u1, p1, p2, bb_t e ?_⟩
    exact q_W_law_1411 _ _ _ _ hc hs ⟨r, K, ab_C_up u2, bb_t rfl k⟩
  · obtain ⟨r, J, u1, hM⟩ := j_note (d := d) (w := w) (n := 91) (nc := nc) (ns := ns) (L := L) hT g (w.2.2.2.2.2.1 (v4 + 1).toNatClampNeg) 1
    obtain ⟨K, u2, gK⟩ := hM L 91 nc ns
    refine ⟨K, L, nc, ns, gK, Nat.le_refl _, Nat.le_succ _, Nat.le_refl _, Nat.le_add_right _ _, fun res hc hs k => ?_⟩
    refine q_W_law_1366 _ hc hs ⟨p1, p2, bb_f e ?_⟩
    refine q_W_law_1387 _ _ _ hc hs ⟨r, J, ab_C_up u1, p1, p2, bb_f e ?_⟩
    exact q_W_law_1411 _ _ _ _ hc hs ⟨r, K, ab_C_up u2, bb_t rfl k⟩
theorem s_forget (hT : w.1.stackTraces = false) (g : RR I T) : stp w d 1543 v4 I L nc ns T := by
  obtain ⟨J, u1, hM⟩ := j_forget (d := d) (w := w) (n := 91) (nc := nc) (ns := ns) (L := L) hT g
  obtain ⟨K, u2, gK⟩ := hM L 91 nc ns
  exact ⟨K, L, nc, ns, gK, Nat.le_refl _, Nat.le_succ _, Nat.le_refl _, Nat.le_add_right _ _, fun res hc hs k => q_W_law_1543 _ hc hs ⟨J, ab_C_up u1, K, ab_C_up u2, k⟩⟩
theorem s_image (hT : w.1.stackTraces = false) (g : RR I T) : stp w d 1634 v4 I L nc ns T := by
  obtain ⟨J, u1, hM⟩ := j_image (d := d) (w := w) (n := 91) (nc := nc) (ns := ns) (L := L) hT g
  obtain ⟨K, u2, gK⟩ := hM L 91 nc ns
  exact ⟨K, L, nc, ns, gK, Nat.le_refl _, Nat.le_succ _, Nat.le_refl _, Nat.le_add_right _ _, fun res hc hs k => q_W_law_1634 _ hc hs ⟨J, ab_C_up u1, K, ab_C_up u2, k⟩⟩
theorem s_net (hT : w.1.stackTraces = false) (g : RR I T) (hp : scr w v4) : stp w d 249 v4 I L nc ns T := by
  obtain ⟨p1, p2, p3, p4, p5⟩ := hp
  rcases j_net (d := d) (w := w) (nc := nc) (ns := ns) (L := L) hT g (w.2.2.2.2.2.1 (v4 + 1).toNatClampNeg) with ⟨r, J, u1, hM⟩ | ⟨u1, hM⟩
  · have hW : ab_CH w (d + 17) mt_W_net [.ref kx, .int (w.2.2.2.2.2.1 (v4 + 1).toNatClampNeg), .ref ox_out] (I, L, ab_RR, 91, nc, ns) (.inl (some (.int 0)), (J, ab_upL (ab_row L kx_reader (fun _ => 0)) ox_out 0 (Int32.toInt64 r), ab_RR, 91, nc + 1, ns + 9)) := ab_CH_of (by decide) (Nat.le_of_ble_eq_true rfl) hT (q_W_net_0 _ (Nat.le_add_right _ _) (Nat.le_add_right _ _) (Or.inl ⟨r, J, _, 92, ⟨u1, Nat.le_refl _, Nat.le_refl _⟩, rfl⟩))
    obtain ⟨K, u2, k1, gK⟩ := hM (ab_upL (ab_row L kx_reader (fun _ => 0)) ox_out 0 (Int32.toInt64 r)) 91 (nc + 1) (ns + 9)
    refine ⟨K, ab_upL (ab_row L kx_reader (fun _ => 0)) ox_out 0 (Int32.toInt64 r), nc + 1, ns + 9, gK, Nat.le_succ _, Nat.le_refl _, Nat.le_add_right _ _, Nat.le_refl _, fun res hc hs k => ?_⟩
    refine q_W_law_249 _ (Nat.le_trans (Nat.le_succ _) hc) (Nat.le_trans (Nat.le_add_right _ 9) hs) ⟨p1, 0, _, _, _, _, _, ⟨hW, Nat.le_succ _, Nat.le_add_right _ _, hc, hs⟩, p1, r, K, ab_C_up u2, 0, m_thrown hT k1, bb_t rfl (bb_t' rfl (bb_t ?_ ?_))⟩
    · rw [show (ab_upL (ab_row L kx_reader (fun _ => 0)) ox_out 0 (Int32.toInt64 r)) ox_out 0 = Int32.toInt64 r from by rw [ab_upL_row, ab_row_eq, pk_uLs]]
      exact lg_0 _
    · exact q_W_law_302 _ _ _ hc hs k
  · have hW : ab_CH w (d + 17) mt_W_net [.ref kx, .int (w.2.2.2.2.2.1 (v4 + 1).toNatClampNeg), .ref ox_out] (I, L, ab_RR, 91, nc, ns) (.inl (some (.int 1)), (I, L, ab_RR, 92, nc + 1, ns + 6)) := ab_CH_of (by decide) (Nat.le_of_ble_eq_true rfl) hT (q_W_net_0 _ (Nat.le_add_right _ _) (Nat.le_add_right _ _) (Or.inr ⟨u1, ⟨Nat.le_refl _, Nat.le_refl _⟩, rfl⟩))
    obtain ⟨r, K, m1, k1, u2⟩ := hM L 91 (nc + 1) (ns + 6)
    refine ⟨K, L, nc + 1, ns + 6, RR_q (Nat.le_succ T) kfr_refl m1 g, Nat.le_succ _, Nat.le_refl _, Nat.le_add_right _ _, by omega, fun res hc hs k => ?_⟩
    refine q_W_law_249 _ (Nat.le_trans (Nat.le_succ _) hc) (Nat.le_trans (Nat.le_add_right _ 6) hs) ⟨p1, 1, _, _, _, _, _, ⟨hW, Nat.le_succ _, Nat.le_add_right _ _, hc, hs⟩, p1, r, K, ab_C_up u2, 1, m_thrown hT k1, bb_t rfl (bb_f' (by decide) ?_)⟩
    exact q_W_law_302 _ _ _ hc hs k
end LST
