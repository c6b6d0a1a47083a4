/-! NET side by side -/
def mnh (K I : Nat → Nat → Int32) : Prop := ∀ k, k ≠ 2 → k ≠ 3 → k ≠ 9 → k ≠ 11 → k ≠ 12 → k ≠ 13 → k ≠ 14 → k ≠ 15 → k ≠ 16 → k ≠ 17 → k ≠ 18 → k ≠ 41 → k ≠ 43 → k ≠ 52 → K mx k = I mx k
/-- what the model made of the text -/
def mOut (K I : Nat → Nat → Int32) (o : Sum (Nat × Nat) Cb) (r : Int32) : Prop := mnh K I ∧ match o with
  | .inl f => r = nI f.1 ∧ K mx 17 = nI f.2 ∧ K mx_status 0 = I mx_status 0 + 1 ∧ (∀ k, k ≠ 0 → K mx_status k = I mx_status k) ∧ (∀ c, c ≠ mx → c ≠ mx_reading → c ≠ mx_status → K c = I c) ∧ K mx 2 = I mx 2 ∧ K mx 41 = I mx 41 ∧ K mx 43 = I mx 43 ∧ K mx 52 = I mx 52
  | .inr c => r = 0 ∧ K mx 2 = nI c.1 ∧ K mx_now 0 = nI c.2.1 ∧ (∀ k, k < 32 → bt (K mx_now 1) k = c.2.2.1 k) ∧ K mx_now 2 = 0 ∧ (∀ k, k < c.2.1 → K mx_now (3 + k) = nI (c.2.2.2.1 k) ∧ K mx_now (27 + k) = nI (c.2.2.2.2.1 k) ∧ K mx_now (51 + k) = nI (c.2.2.2.2.2.1 k) ∧ K mx_now (75 + k) = nI (c.2.2.2.2.2.2 k)) ∧ K mx 41 = 0 ∧ K mx 43 = 0 ∧ K mx 52 = 0 ∧ K mx 17 = I mx 17 ∧ ∀ c, c ≠ mx → c ≠ mx_reading → c ≠ mx_now → K c = I c
section JNE
variable {w : ab_Wd} {d n nc ns : Nat} {I : Nat → Nat → Int32} {L : Nat → Nat → Int64}
variable {b : Nat → Nat} {Z T : Nat}
theorem mng_h {J I : Nat → Nat → Int32} (h : mng J I) : mnh J I := fun k _ a b c d e f g h' _ i _ _ _ => h.2 k a b c d e f g h' i
theorem z_netLoop (hT : w.1.stackTraces = false) {v1 v2 : Int32} : ∀ f i t (c : Cb) (I : Nat → Nat → Int32), i + f = 701 → i ≤ t.2.1 → (t.1 ≠ 0 → t.2.1 < t.2.2.1) → mRt I b Z t c → I mx 18 = nI i → ∃ K r, mOut K I (rdP b Z f i t c) r ∧ ab_E w ((d + 6) + 1) mt_M_net 84 [.ref mx, .int v1, .int v2] [] (I, L, ab_RR, n, nc, ns) (.inl (some (.int r)), (K, L, ab_RR, n, nc, ns)) := by
  intro f
  induction f with
  | zero =>
    intro i t c I hi h1 h2 h h18
    have a1 := h.2.2.1.2.1; have a2 := h.2.2.1.2.2.1; have a3 := h.1.2.1
    omega
  | succ f ih =>
    intro i t c I hi h1 h2 h h18
    have a1 := h.2.2.1.2.1; have a2 := h.2.2.1.2.2.1; have a3 := h.1.2.1
    have a4 := h.2.2.1.1
    have h7 := h.2.2.2.1
    by_cases ht : t.1 = 0
    · have e : rdP b Z (f + 1) i t c = .inr c := if_pos ht
      have k0 : I mx 11 = 0 := by rw [h.2.1.1, ht]; rfl
      obtain ⟨b0, b1, b2, b3, b4, b5, b6, b7⟩ := h.2.2.2.2
      obtain ⟨K1, f1, g1, u1⟩ := z_cp0 (d := d + 6) (I := ab_up I mx 2 (nI c.1)) (w := w) (n := n) (nc := nc) (ns := ns) (L := L) hT
      rw [e]
      have kn : ∀ x, x < 399 → K1 mx_now x = I mx_reading x := fun x hx => by rw [g1 x hx, ab_up_o (by decide)]
      have km : ∀ k, k ≠ 2 → K1 mx k = I mx k := fun k hk => by rw [f1 _ (by decide), ab_up_i, pk_un hk]
      refine ⟨ab_up (ab_up (ab_up K1 mx 41 0) mx 43 0) mx 52 0, 0, ⟨fun k k2 k3 k9 k11 k12 k13 k14 k15 k16 k17 k18 k41 k43 k52 => by rw [ab_up_i, pk_un k52, ab_up_i, pk_un k43, ab_up_i, pk_un k41]; exact km k k2, rfl, ?_, ?_, fun k hk => ?_, ?_, fun k hk => ?_, ?_, ?_, ?_, ?_, fun x x1 x2 x3 => ?_⟩, ?_⟩
      · rw [ab_up_i, pk_un (by decide), ab_up_i, pk_un (by decide), ab_up_i, pk_un (by decide), f1 _ (by decide), ab_up_i, pk_us]
      · rw [ab_up_o (by decide), ab_up_o (by decide), ab_up_o (by decide), kn 0 (by omega)]; exact b1
      · rw [ab_up_o (by decide), ab_up_o (by decide), ab_up_o (by decide), kn 1 (by omega)]; exact b5 k hk
      · rw [ab_up_o (by decide), ab_up_o (by decide), ab_up_o (by decide), kn 2 (by omega)]; exact b6
      · rw [ab_up_o (by decide), ab_up_o (by decide), ab_up_o (by decide), kn _ (by omega), kn _ (by omega), kn _ (by omega), kn _ (by omega)]; exact b7 k hk
      · rw [ab_up_i, pk_un (by decide), ab_up_i, pk_un (by decide), ab_up_i, pk_us]
      · rw [ab_up_i, pk_un (by decide), ab_up_i, pk_us]
      · rw [ab_up_i, pk_us]
      · rw [ab_up_i, pk_un (by decide), ab_up_i, pk_un (by decide), ab_up_i, pk_un (by decide)]; exact km 17 (by decide)
      · rw [ab_up_o x1, ab_up_o x1, ab_up_o x1, f1 x x3, ab_up_o x1]
      · refine r_M_net_84 hT _ _ (Nat.le_refl _) (Nat.le_refl _) ?_
        refine bb_t' h7 (bb_t k0 (bb_t h7 ?_))
        rcases b0 with ⟨q1, q2⟩ | q1
        · rw [q2] at u1
          exact bb_t q1 ⟨_, u1, rfl⟩
        · rw [← q1] at u1
          refine bb_f ?_ ⟨_, u1, rfl⟩
          rw [q1]; exact nI_m1 (by omega)
    · have n0 : ¬ I mx 11 = 0 := fun g => ht (by rw [h.2.1.1] at g; exact (nI_eq (b := 0) (by omega) (by omega)).mp g)
      have lt := h2 ht
      have e : rdP b Z (f + 1) i t c = match clP b Z t (decide (i = 0)) c with
        | .inl e => .inl e
        | .inr s => rdP b Z f (i + 1) s.1 s.2 := if_neg ht
      rcases z_clause (d := d) (w := w) (n := n) (nc := nc) (ns := ns) (L := L) hT h (i := i) (by omega) h18 with ⟨cd, a, s1, J1, f1, r1, u1⟩ | ⟨t', c', s1, s2, s3, J1, f1, r1, r18, u1⟩
      · rw [e, s1]
        have hs : J1 mx_status = I mx_status := f1.1 _ (by decide) (by decide)
        refine ⟨ab_up (ab_up J1 mx 17 (J1 mx 16)) mx_status 0 ((J1 mx_status 0) + 1), nI cd, ⟨fun k k2 k3 k9 k11 k12 k13 k14 k15 k16 k17 k18 k41 k43 k52 => by rw [ab_up_o (by decide), ab_up_i, pk_un k17]; exact mng_h f1 k k2 k3 k9 k11 k12 k13 k14 k15 k16 k17 k18 k41 k43 k52, rfl, ?_, ?_, fun k hk => ?_, fun x x1 x2 x3 => ?_, ?_, ?_, ?_, ?_⟩, ?_⟩
        · rw [ab_up_o (by decide), ab_up_i, pk_us]; exact r1.2.1
        · rw [ab_up_i, pk_us, hs]
        · rw [ab_up_i, pk_un hk, ab_up_o (by decide), hs]
        · rw [ab_up_o x3, ab_up_o x1]; exact f1.1 x x1 x2
        · rw [ab_up_o (by decide), ab_up_i, pk_un (by decide)]; exact f1.2 2 (by decide) (by decide) (by decide) (by decide) (by decide) (by decide) (by decide) (by decide) (by decide)
        · rw [ab_up_o (by decide), ab_up_i, pk_un (by decide)]; exact f1.2 41 (by decide) (by decide) (by decide) (by decide) (by decide) (by decide) (by decide) (by decide) (by decide)
        · rw [ab_up_o (by decide), ab_up_i, pk_un (by decide)]; exact f1.2 43 (by decide) (by decide) (by decide) (by decide) (by decide) (by decide) (by decide) (by decide) (by decide)
        · rw [ab_up_o (by decide), ab_up_i, pk_un (by decide)]; exact f1.2 52 (by decide) (by decide) (by decide) (by decide) (by decide) (by decide) (by decide) (by decide) (by decide)
        · refine r_M_net_84 hT _ _ (Nat.le_refl _) (Nat.le_refl _) ?_
          refine bb_t' h7 (bb_f n0 ⟨_, u1, ?_⟩)
          refine r_M_net_84 hT _ _ (Nat.le_refl _) (Nat.le_refl _) ?_
          refine bb_f' (mF_ne r1) (bb_f (mF_ne r1) ?_)
          rw [r1.1]
      · obtain ⟨K, r, g1, g2⟩ := ih (i + 1) t' c' J1 (by omega) (by omega) s3 r1 r18
        rw [e, s1]
        refine ⟨K, r, ?_, ?_⟩
        · obtain ⟨q0, q⟩ := g1
          have hs : J1 mx_status = I mx_status := f1.1 _ (by decide) (by decide)
          refine ⟨fun k k2 k3 k9 k11 k12 k13 k14 k15 k16 k17 k18 k41 k43 k52 => (q0 k k2 k3 k9 k11 k12 k13 k14 k15 k16 k17 k18 k41 k43 k52).trans (mng_h f1 k k2 k3 k9 k11 k12 k13 k14 k15 k16 k17 k18 k41 k43 k52), ?_⟩
          have m2 : J1 mx 2 = I mx 2 := f1.2 2 (by decide) (by decide) (by decide) (by decide) (by decide) (by decide) (by decide) (by decide) (by decide)
          have m41 : J1 mx 41 = I mx 41 := f1.2 41 (by decide) (by decide) (by decide) (by decide) (by decide) (by decide) (by decide) (by decide) (by decide)
          have m43 : J1 mx 43 = I mx 43 := f1.2 43 (by decide) (by decide) (by decide) (by decide) (by decide) (by decide) (by decide) (by decide) (by decide)
          have m52 : J1 mx 52 = I mx 52 := f1.2 52 (by decide) (by decide) (by decide) (by decide) (by decide) (by decide) (by decide) (by decide) (by decide)
          have m17 : J1 mx 17 = I mx 17 := f1.2 17 (by decide) (by decide) (by decide) (by decide) (by decide) (by decide) (by decide) (by decide) (by decide)
          show match rdP b Z f (i + 1) t' c' with
            | .inl f => _
            | .inr c => _
          revert q
          cases rdP b Z f (i + 1) t' c' with
          | inl p =>
            rintro ⟨y1, y2, y3, y4, y5, y6, y7, y8, y9⟩
            exact ⟨y1, y2, by rw [y3, hs], fun k hk => by rw [y4 k hk, hs], fun x x1 x2 x3 => (y5 x x1 x2 x3).trans (f1.1 x x1 x2), y6.trans m2, y7.trans m41, y8.trans m43, y9.trans m52⟩
          | inr p =>
            rintro ⟨y1, y2, y3, y4, y5, y6, y7, y8, y9, y10, y11⟩
            exact ⟨y1, y2, y3, y4, y5, y6, y7, y8, y9, y10.trans m17, fun x x1 x2 x3 => (y11 x x1 x2 x3).trans (f1.1 x x1 x2)⟩
        · refine r_M_net_84 hT _ _ (Nat.le_refl _) (Nat.le_refl _) ?_
          exact bb_t' h7 (bb_f n0 ⟨_, u1, g2⟩)
theorem z_net (hT : w.1.stackTraces = false) {f : Nat} (hZ : Z ≤ f) (hf : f ≤ 700) (h8 : I mx 8 = nI f) (ht : ∀ j, j < Z → b j < 256 ∧ I mx_tape j = nI (b j)) : ∃ K r I0, (∀ c, c ≠ mx → c ≠ mx_reading → I0 c = I c) ∧ (∀ k, k ≠ 1 → k ≠ 3 → k ≠ 8 → k ≠ 9 → k ≠ 10 → k ≠ 11 → k ≠ 12 → k ≠ 13 → k ≠ 14 → k ≠ 15 → k ≠ 17 → k ≠ 18 → I0 mx k = I mx k) ∧ I0 mx 1 = 0 ∧ I0 mx 8 = 0 ∧ I0 mx 17 = -1 ∧ mOut K I0 (rdT b Z) r ∧ ab_PU w (d + 7) mt_M_net [.ref mx, .int (nI Z)] I L n nc ns r K := by
  obtain ⟨I1, hI1⟩ : ∃ K, K = ab_up (ab_up (ab_up (ab_up (ab_up (ab_up (ab_up (ab_up I mx 1 0) mx 8 0) mx 10 (nI Z)) mx 9 0) mx 15 0) mx 17 (-1)) mx 18 0) mx 3 (-1) := ⟨_, rfl⟩
  have e1 : ∀ k, I1 mx k = upd (upd (upd (upd (upd (upd (upd (upd (I mx) 1 0) 8 0) 10 (nI Z)) 9 0) 15 0) 17 (-1)) 18 0) 3 (-1) k := fun k => by rw [hI1, ab_up_i, ab_up_i, ab_up_i, ab_up_i, ab_up_i, ab_up_i, ab_up_i, ab_up_i]
  have f1 : ∀ c, c ≠ mx → I1 c = I c := fun c hc => by rw [hI1, ab_up_o hc, ab_up_o hc, ab_up_o hc, ab_up_o hc, ab_up_o hc, ab_up_o hc, ab_up_o hc, ab_up_o hc]
  have zero : ∀ t i (K : Nat → Nat → Int32) (Q : (Nat → Nat → Int32) → Int32 → Prop), i + t = 399 → (∀ c, c ≠ mx_reading → K c = I1 c) → (∀ j, j < i → K mx_reading j = 0) → (∀ K', (∀ c, c ≠ mx_reading → K' c = I1 c) → (∀ j, j < 399 → K' mx_reading j = 0) → ∃ J r, Q J r ∧ ab_E w ((d + 6) + 1) mt_M_net 60 [.ref mx, .int (nI Z), .int (nI 399)] [] ((K'), L, ab_RR, n, nc, ns) (.inl (some (.int r)), (J, L, ab_RR, n, nc, ns))) → ∃ J r, Q J r ∧ ab_E w ((d + 6) + 1) mt_M_net 60 [.ref mx, .int (nI Z), .int (nI i)] [] (K, L, ab_RR, n, nc, ns) (.inl (some (.int r)), (J, L, ab_RR, n, nc, ns)) := by
    intro t
    induction t with
    | zero =>
      intro i K Q hi k1 k2 k3
      have e : i = 399 := by omega
      subst e
      exact k3 K k1 k2
    | succ t ih =>
      intro i K Q hi k1 k2 k3
      obtain ⟨J, r, g1, g2⟩ := ih (i + 1) (ab_up K mx_reading i 0) Q (by omega) (fun c hc => by rw [ab_up_o hc]; exact k1 c hc) (fun j hj => by
        rw [ab_up_i]
        by_cases e : j = i
        · rw [e, pk_us]
        · rw [pk_un e]; exact k2 j (by omega)) k3
      refine ⟨J, r, g1, ?_⟩
      refine r_M_net_60 hT _ _ (Nat.le_refl _) (Nat.le_refl _) ?_
      rw [nI_clamp (by omega), nI_1]
      exact bb_f (fun h => by have := (nI_leI (a := 399) (by omega) (by omega)).mp h; omega) ⟨vp_in_nI (by omega) (by omega), g2⟩
  obtain ⟨K, r, ⟨I0, q1, q2, q3, q4, q5, q6⟩, u⟩ := zero 399 0 I1 (fun K r => ∃ I0, (∀ c, c ≠ mx → c ≠ mx_reading → I0 c = I c) ∧ (∀ k, k ≠ 1 → k ≠ 3 → k ≠ 8 → k ≠ 9 → k ≠ 10 → k ≠ 11 → k ≠ 12 → k ≠ 13 → k ≠ 14 → k ≠ 15 → k ≠ 17 → k ≠ 18 → I0 mx k = I mx k) ∧ I0 mx 1 = 0 ∧ I0 mx 8 = 0 ∧ I0 mx 17 = -1 ∧ mOut K I0 (rdT b Z) r) (by omega) (fun _ _ => rfl) (fun j hj => absurd hj (Nat.not_lt_zero j)) (fun K' k1 k2 => by
    have em : ∀ k, K' mx k = I1 mx k := fun k => by rw [k1 mx (by decide)]
    have mt : mT K' b Z := ⟨by rw [em, e1]; rfl, by omega, fun j hj => by rw [k1 _ (by decide), f1 _ (by decide)]; exact ht j hj⟩
    obtain ⟨I3, g1, g2, u3⟩ := z_next (d := d + 5) (w := w) (n := n) (nc := nc) (ns := ns) (L := L) hT mt (Nat.zero_le Z) (by rw [em, e1]; rfl)
    have tb := tk_b (b := b) (Nat.zero_le Z)
    have g3 : ∀ k, k ≠ 9 → k ≠ 11 → k ≠ 12 → k ≠ 13 → k ≠ 14 → I3 mx k = I1 mx k := fun k a1 a2 a3 a4 a5 => by rw [g1.2 k a1 a2 a3 a4 a5, em]
    have rd : I3 mx_reading = K' mx_reading := g1.1 _ (by decide)
    have mr : mRt I3 b Z (tk b Z 0) (4, 0, fun _ => false, fun _ => 0, fun _ => 0, fun _ => 0, fun _ => 0) := by
      refine ⟨mT_mv g1 mt, g2, ⟨tb.1, tb.2.2.1, tb.2.2.2.1, tb.2.2.2.2.2⟩, by rw [g3 15 (by decide) (by decide) (by decide) (by decide) (by decide), e1]; rfl, Or.inl ⟨by rw [g3 3 (by decide) (by decide) (by decide) (by decide) (by decide), e1]; rfl, rfl⟩, by rw [rd]; exact k2 0 (by omega), by show 2 ≤ 4; omega, by show 4 ≤ 10; omega, Nat.zero_le _, fun k hk => ?_, by rw [rd]; exact k2 2 (by omega), fun k hk => absurd hk (Nat.not_lt_zero k)⟩
      rw [rd, k2 1 (by omega)]; exact b_0 k
    obtain ⟨K, r, w1, w2⟩ := z_netLoop (d := d) (v1 := nI Z) (v2 := nI 399) (w := w) (n := n) (nc := nc) (ns := ns) (L := L) hT 701 0 _ _ I3 (by omega) (Nat.zero_le _) tb.2.2.2.2.1 mr (by rw [g3 18 (by decide) (by decide) (by decide) (by decide) (by decide), e1]; rfl)
    refine ⟨K, r, ⟨I3, fun c c1 c2 => by rw [g1.1 c c1, k1 c c2, f1 c c1], fun k a1 a3 a8 a9 a10 a11 a12 a13 a14 a15 a17 a18 => ?_, ?_, ?_, ?_, w1⟩, ?_⟩
    · rw [g3 k a9 a11 a12 a13 a14, e1, pk_un a3, pk_un a18, pk_un a17, pk_un a15, pk_un a9, pk_un a10, pk_un a8, pk_un a1]
    · rw [g3 1 (by decide) (by decide) (by decide) (by decide) (by decide), e1]; rfl
    · rw [g3 8 (by decide) (by decide) (by decide) (by decide) (by decide), e1]; rfl
    · rw [g3 17 (by decide) (by decide) (by decide) (by decide) (by decide), e1]; rfl
    · refine r_M_net_60 hT _ _ (Nat.le_refl _) (Nat.le_refl _) ?_
      exact bb_t (by decide) ⟨_, u3, w2⟩)
  refine ⟨K, r, I0, q1, q2, q3, q4, q5, q6, ?_⟩
  refine ab_C_of (by decide) rfl (Nat.le_of_ble_eq_true rfl) hT ?_
  refine r_M_net_0 hT _ (Nat.le_refl _) (Nat.le_refl _) ?_
  rw [h8, ← hI1]
  exact bb_f (nI_pos (by omega)) (bb_t ((nI_leI (by omega) (by omega)).mpr hZ) u)
end JNE
