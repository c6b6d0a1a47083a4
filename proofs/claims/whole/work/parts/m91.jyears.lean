/-! YEARS side by side -/
section JYE
variable {w : ab_Wd} {d n nc ns : Nat} {I : Nat → Nat → Int32} {L : Nat → Nat → Int64}
variable {S T N : Nat} {sd : Nat → Bool} {e1 e2 pr fm : Nat → Nat} {l : List Nat}
theorem yB_24 {s : Ys} (hN : N ≤ 24) (hw : ∀ k, k < N → e1 k < S ∧ e2 k < S) : ∀ k, 24 ≤ k → yB N e1 e2 s k = false := fun k hk => decide_eq_false (fun h => by
  have := ((net_mem (S := S) (lo_od s.2.1 N) hw s.2.2 k).mp h).1
  omega)
/-- one year of the model -/
theorem z_happens (hT : w.1.stackTraces = false) {s : Ys} {E : Nat} {h : Nat → Nat → Nat} (hm : mC I S N s.2.2 e1 e2 s.2.1 fm (lo s.2.1 N)) (hH : mH (I mx_now) E h) (hE9 : E < 2 ^ 30) (hx : I mx 50 = s.1) : ∃ J h', (∀ c, c ≠ mx → c ≠ mx_piece → c ≠ mx_taken → c ≠ mx_now → J c = I c) ∧ (∀ k, k ≠ 21 → k ≠ 22 → k ≠ 50 → J mx k = I mx k) ∧ J mx 50 = (yst N s).1 ∧ mC J S N (yst N s).2.2 e1 e2 (yst N s).2.1 fm (lo (yst N s).2.1 N) ∧ mH (J mx_now) (nxE (yB N e1 e2 s) (yB N e1 e2 (yst N s)) E) h' ∧ ab_U w (d + 6) mt_M_happens [.ref mx] I L n nc ns J := by
  have p2 := hm.1.2.1
  have p4 := hm.1.2.2.2.1
  have hw : ∀ k, k < N → e1 k < S ∧ e2 k < S := fun k hk => ⟨(hm.1.2.2.2.2.2 k hk).2.2.2.1, (hm.1.2.2.2.2.2 k hk).2.2.2.2.1⟩
  by_cases hN : N = 0
  · have e : yst N s = (nxS s.1, s.2.1, s.2.2) := if_pos hN
    have eB : yB N e1 e2 (yst N s) = yB N e1 e2 s := by rw [e]; unfold yB; rfl
    rw [eB, (nx_t (why := 0) (k := 0) (tot := 0) (h := h) (fun _ => rfl)).1, e]
    refine ⟨ab_up I mx 50 (nxS s.1), h, fun c h1 _ _ _ => ab_up_o h1, fun k _ _ h3 => by rw [ab_up_i, pk_un h3], by rw [ab_up_i, pk_us], mC_mar (by rw [ab_up_i, pk_un (by decide)]) (fun j _ _ => by rw [ab_up_o (by decide)]) hm, by rw [ab_up_o (by decide)]; exact hH, ?_⟩
    refine ab_C_of (by decide) rfl (Nat.le_of_ble_eq_true rfl) hT ?_
    refine r_M_happens_0 hT (Nat.le_refl _) (Nat.le_refl _) ?_
    rw [hx]
    exact bb_t' (by rw [p2, hN]; rfl) rfl
  have hk : drw (nxS (nxS s.1)) N < N := Nat.mod_lt _ (by omega)
  have n0 : ¬ nI N = 0 := fun h => hN ((nI_eq (b := 0) (by omega) (by omega)).mp h)
  have d8 : drw (nxS s.1) 8 < 8 := Nat.mod_lt _ (by omega)
  by_cases h8 : 6 ≤ drw (nxS s.1) 8
  · have e : yst N s = (nxS (nxS s.1), s.2.1, fun j => if j = drw (nxS (nxS s.1)) N then !s.2.2 (drw (nxS (nxS s.1)) N) else s.2.2 j) := (if_neg hN).trans (if_pos h8)
    rw [e]
    generalize hkk : drw (nxS (nxS s.1)) N = k at *
    obtain ⟨M, hM⟩ : ∃ M, M = ab_up (ab_up I mx 50 (nxS s.1)) mx 50 (nxS (nxS s.1)) := ⟨_, rfl⟩
    have fM : ∀ c, c ≠ mx → M c = I c := fun c hc => by rw [hM, ab_up_o hc, ab_up_o hc]
    have gM : ∀ k, k ≠ 50 → M mx k = I mx k := fun k hk => by rw [hM, ab_up_i, pk_un hk, ab_up_i, pk_un hk]
    have m50 : M mx 50 = nxS (nxS s.1) := by rw [hM, ab_up_i, pk_us]
    obtain ⟨J, j1, j2, j3, j4⟩ := y_turnsNow (d := d) (I := M) (w := w) (n := n) (nc := nc) (ns := ns) (L := L) hT (mC_mar (gM 2 (by decide)) (fun j _ _ => by rw [fM _ (by decide)]) hm) (yB_24 p4 hw) (E := E) (h := h) (by rw [fM _ (by decide)]; exact hH) hE9 hk
    refine ⟨J, _, fun c h1 h2 h3 h4 => by rw [j1.1 c h1 h2 h3 h4, fM c h1], fun k h1 h2 h3 => by rw [j1.2 k h1 h2, gM k h3], by rw [j1.2 50 (by decide) (by decide)]; exact m50, j2, j3, ?_⟩
    refine ab_C_of (by decide) rfl (Nat.le_of_ble_eq_true rfl) hT ?_
    refine r_M_happens_0 hT (Nat.le_refl _) (Nat.le_refl _) ?_
    simp (disch := omega) only [hx, nxS_def, dr_m, dr_8, dr_41, p2, dr_n, hkk, ← hM]
    exact bb_f' n0 ⟨n0, bb_t ((nI_leI (a := 6) (by omega) (by omega)).mpr h8) ⟨_, j4, rfl⟩⟩
  · have e : yst N s = (nxS (nxS (nxS s.1)), (fun j => if j = drw (nxS (nxS s.1)) N then yrP (s.2.1 (drw (nxS (nxS s.1)) N)) (drw (nxS (nxS (nxS s.1))) 41) else s.2.1 j), s.2.2) := (if_neg hN).trans (if_neg h8)
    rw [e]
    generalize hkk : drw (nxS (nxS s.1)) N = k at *
    have ht : drw (nxS (nxS (nxS s.1))) 41 ≤ 40 := by have : drw (nxS (nxS (nxS s.1))) 41 < 41 := Nat.mod_lt _ (by omega); omega
    have q := hm.1.2.2.2.2.2 k hk
    have yb := yrP_b (s.2.1 k) (drw (nxS (nxS (nxS s.1))) 41)
    have ev := yr_nI q.2.2.2.2.2 ht
    generalize hv : yrP (s.2.1 k) (drw (nxS (nxS (nxS s.1))) 41) = v at *
    obtain ⟨M, hM⟩ : ∃ M, M = ab_up (ab_up (ab_up I mx 50 (nxS s.1)) mx 50 (nxS (nxS s.1))) mx 50 (nxS (nxS (nxS s.1))) := ⟨_, rfl⟩
    have fM : ∀ c, c ≠ mx → M c = I c := fun c hc => by rw [hM, ab_up_o hc, ab_up_o hc, ab_up_o hc]
    have gM : ∀ k, k ≠ 50 → M mx k = I mx k := fun k hk => by rw [hM, ab_up_i, pk_un hk, ab_up_i, pk_un hk, ab_up_i, pk_un hk]
    have m50 : M mx 50 = nxS (nxS (nxS s.1)) := by rw [hM, ab_up_i, pk_us]
    obtain ⟨J, j1, j2, j3, j4⟩ := y_pricesNow (d := d) (I := M) (w := w) (n := n) (nc := nc) (ns := ns) (L := L) hT (mC_mar (gM 2 (by decide)) (fun j _ _ => by rw [fM _ (by decide)]) hm) (yB_24 p4 hw) (E := E) (h := h) (by rw [fM _ (by decide)]; exact hH) hE9 hk yb.1 yb.2 (lo_od _ N)
    refine ⟨J, _, fun c h1 h2 h3 h4 => by rw [j1.1 c h1 h2 h3 h4, fM c h1], fun k h1 h2 h3 => by rw [j1.2 k h1 h2, gM k h3], by rw [j1.2 50 (by decide) (by decide)]; exact m50, j2, j3, ?_⟩
    refine ab_C_of (by decide) rfl (Nat.le_of_ble_eq_true rfl) hT ?_
    refine r_M_happens_0 hT (Nat.le_refl _) (Nat.le_refl _) ?_
    simp (disch := omega) only [hx, nxS_def, dr_m, dr_8, dr_41, p2, dr_n, hkk, nl_add2, nI_clamp, q.2.2.1, ev, ← hM]
    exact bb_f' n0 ⟨n0, bb_f (fun h => by have := (nI_leI (a := 6) (by omega) (by omega)).mp h; omega) ⟨vp_in_nI (by omega) (by omega), _, j4, rfl⟩⟩
noncomputable def ywh (S N : Nat) (e1 e2 : Nat → Nat) (s : Ys) (i q : Nat) : Nat := if q = 0 then ((net e1 e2 (ysI N s i).2.2 (lo (ysI N s i).2.1 N)).map (ysI N s i).2.1).sum else if q = 1 then yE N e1 e2 s i else S - (net e1 e2 (ysI N s i).2.2 (lo (ysI N s i).2.1 N)).length
end JYE
