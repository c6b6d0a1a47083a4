/-! THE TWO SIDE BY SIDE: look, joined -/
section JLK
variable {w : ab_Wd} {d n nc ns : Nat} {I : Nat → Nat → Int32} {L : Nat → Nat → Int64}
variable {S N : Nat} {sd : Nat → Bool} {e1 e2 pr fm : Nat → Nat} {l : List Nat}
theorem j_look (hT : w.1.stackTraces = false) (hR : RQ I S N sd e1 e2 pr fm l) {m : Nat} {cb : Nat → Nat} {ib : Nat → Bool} (hN : nR I m cb ib) (v : Int32) : qOk w (d + 16) mt_K_look mt_M_look [.int v] I L n nc ns I ∨ qNo w (d + 16) mt_K_look mt_M_look [.int v] I L n nc ns I "java/util/NoSuchElementException" 1 ∨ qNo w (d + 16) mt_K_look mt_M_look [.int v] I L n nc ns I "java/lang/IllegalStateException" 2 := by
  obtain ⟨hq, hm, -⟩ := hR
  have hm0 : mC (ab_up I mx 1 0) S N sd e1 e2 pr fm l := mC_gr mgr_c hm
  have p2 := hq.1.1.2.1
  have p4 := hq.1.1.2.2.2.1
  have z1 : I mx_now 0 = nI N := hm.1.2.1
  rcases k_needCable (d := d + 7) (w := w) (n := n) (nc := nc) (ns := ns) (L := L) hT p2 p4 v with ⟨k, hk, e, need⟩ | ⟨hbad, need⟩
  · subst e
    obtain ⟨a1, a2, a3, a4⟩ := v_rg1 hk (by omega)
    have hsk := hq.1.2.2.2.1 k (by omega)
    have hs9 := hm.2.2.1 k (by omega)
    obtain ⟨ns1, ns2⟩ := k_needSound (d := d + 7) (w := w) (n := n) (nc := nc) (ns := ns) (L := L) hT (show k < 32 by omega) hsk
    by_cases hs : sd k = true
    · left
      obtain ⟨o, o1, o2⟩ := (k_barOf (d := d + 10) (w := w) (n := n) (nc := nc) (ns := ns) (L := L) hT hq hk).1 hs
      obtain ⟨x, ⟨ox, x1, x2⟩, x3⟩ := k_netWith (d := d + 12) (w := w) (n := n) (nc := nc) (ns := ns) (L := L) hT hq hk hs
      obtain ⟨y, ⟨oy, y1, y2⟩, y3⟩ := k_netWithout (d := d + 11) (w := w) (n := n) (nc := nc) (ns := ns) (L := L) hT hq hk hs
      obtain ⟨oz, w1, w0, -, w3⟩ := k_partnerOf (d := d + 11) (w := w) (n := n) (nc := nc) (ns := ns) (L := L) hT hq hk hs
      have hpp : ∀ q, q < N → 1 ≤ pr q := fun q h => (kq_hp hq.1 q h).1
      have ex := pq_uq hk hs hpp x1 o1
      have ey := pq_uq hk hs hpp y1 o1
      have ez := pq_uq hk hs hpp w1 o1
      subst ex
      subst ey
      subst ez
      have hB := brN_le hq o1
      have ip := nt_iff hN x
      have iq := nt_iff hN y
      have hnone : oz = none → brN pr k oz = 999 := fun h => by rw [h]; rfl
      have hqk : ∀ q, oz = some q → q ≠ k := fun q h => by subst h; exact o1.2.2.1
      have model : ∀ (L : Nat → Nat → Int64) (n nc ns : Nat), ∃ J, mfr J (ab_up I mx 1 0) ∧ J mx 48 = ftA (brN pr k oz) 0 (ntB I m x) (ntB I m y) x y ∧ J mx 49 = ftO (brN pr k oz) 0 (ntB I m x) (ntB I m y) x y ∧ ab_U w (d + 15) mt_M_tellFits [.ref mx, .int (nI k)] (ab_up I mx 1 0) L n nc ns J := fun L n nc ns => by
        have en : ∀ r, ntB (ab_up I mx 1 0) m r = ntB I m r := fun r => by
          unfold ntB
          rw [ab_up_o (by decide), ab_up_o (by decide)]
        obtain ⟨J, t1, -, -, t2, t3, t4⟩ := z_tellFits (d := d + 11) (w := w) (n := n) (nc := nc) (ns := ns) (L := L) hT hm0 (x := x) (y := y) (m := m) hk hs o1 hB (by rw [ab_up_i, pk_un (by omega)]; exact hN.1) hN.2.1 (fun v v1 v2 j hj => by rw [x2 j hj]; exact wi_in hq hk hs o1 v2) (fun v v1 v2 j hj => by rw [y2 j hj]; exact wo_in hq hk hs o1 v1 v2)
        rw [en, en] at t2 t3
        exact ⟨J, t1, t2, t3, t4⟩
      obtain ⟨bl1, bl2⟩ := br_le hB
      generalize brN pr k oz = B at *
      generalize ntB I m x = p at *
      generalize ntB I m y = q at *
      refine ⟨kfr_refl, if (p = true ∧ 0 < B) ∧ (q = true ∧ B < 999) then oI oz else -1, ?_, fun L n nc ns => ?_⟩
      · have nq : ∀ {c : Prop}, (c → q = true) → (q = true → c) → (¬ c → q = false) := fun h1 h2 h3 => by
          cases q with
          | false => rfl
          | true => exact absurd (h2 rfl) h3
        refine ab_C_of (by decide) rfl (Nat.le_of_ble_eq_true rfl) hT ?_
        refine r_K_look_0 hT _ (Nat.le_refl _) (Nat.le_refl _) ?_
        refine Or.inl ⟨need, Or.inl ⟨ns1 hs, _, o2, fun b0 => ?_, fun b0 => ?_⟩⟩
        · have hB0 := bl1.mp b0
          rw [if_neg (fun h => by omega)]
          exact ⟨fun _ => rfl, fun _ => ⟨y, y3, fun _ => ⟨fun _ => rfl, fun _ => rfl⟩, fun _ => rfl⟩⟩
        · have hB0 : 0 < B := by
            have : B ≠ 0 := fun h => b0 (bl1.mpr h)
            omega
          refine ⟨x, x3, fun c1 => ⟨fun c2 => ?_, fun c2 => ?_⟩, fun c1 => ?_⟩
          · have hp : p = true := ip.mpr ⟨c1, c2⟩
            refine ⟨fun b9 => ?_, fun b9 => ⟨y, y3, fun d1 => ⟨fun d2 => ⟨_, w3, ?_⟩, fun d2 => ?_⟩, fun d1 => ?_⟩⟩
            · have := bl2.mp b9
              rw [if_neg (fun h => by omega)]
            · have : B ≠ 999 := fun h => b9 (bl2.mpr h)
              rw [if_pos ⟨⟨hp, hB0⟩, iq.mpr ⟨d1, d2⟩, by omega⟩]
            · rw [if_neg (fun h => d2 (iq.mp h.2.1).2)]
            · rw [if_neg (fun h => d1 (iq.mp h.2.1).1)]
          · rw [if_neg (fun h => c2 (ip.mp h.1.1).2)]
            exact ⟨fun _ => rfl, fun _ => ⟨y, y3, fun _ => ⟨fun _ => rfl, fun _ => rfl⟩, fun _ => rfl⟩⟩
          · rw [if_neg (fun h => c1 (ip.mp h.1.1).1)]
            exact ⟨fun _ => rfl, fun _ => ⟨y, y3, fun _ => ⟨fun _ => rfl, fun _ => rfl⟩, fun _ => rfl⟩⟩
      · obtain ⟨J, t1, t2, t3, t4⟩ := model L n nc ns
        have z0 : ∀ j, j < 32 → bt (0 : Int32) j = false := fun j hj => by
          have : ∀ j : Fin 32, bt (0 : Int32) j.1 = false := by decide
          exact this ⟨j, hj⟩
        have zm : ∀ j, j < 32 → bt (-1 : Int32) j = true := fun j hj => by
          have : ∀ j : Fin 32, bt (-1 : Int32) j.1 = true := by decide
          exact this ⟨j, hj⟩
        refine ⟨J, (mfr_ok t1).1, (mfr_ok t1).2, ?_⟩
        generalize hM : ((J mx 49) &&& ((J mx 48) ^^^ (-1))) &&& (((1 : Int32) <<< (nI k &&& 31)) ^^^ (-1)) = M
        have hb : ∀ j, j < 32 → bt M j = (bt (J mx 49) j && !bt (J mx 48) j && !decide (j = k)) := fun j hj => by
          rw [← hM, b_and, b_and, ab_bnot _ hj, ab_bnot _ hj, ab_sh1 (by omega) hj]
        by_cases hc : (p = true ∧ 0 < B) ∧ (q = true ∧ B < 999)
        · rw [if_pos hc]
          have hoz : ∃ z, oz = some z := by
            cases oz with
            | none => have := hnone rfl; omega
            | some z => exact ⟨z, rfl⟩
          obtain ⟨z, ez⟩ := hoz
          have hzN := w0 z ez
          have hzk := hqk z ez
          have hbj : ∀ j, j < 32 → bt M j = decide (j = z) := fun j hj => by
            rw [hb j hj, t2, t3]
            unfold ftA ftO
            rw [if_pos hc.1, if_pos hc.1, show max 0 B = B by omega, if_pos hc.2, if_pos hc.2, b_or, b_and, x2 j hj, y2 j hj]
            unfold wiB woB
            rw [ez]
            by_cases e1' : j = k
            · subst e1'
              rw [decide_eq_true (rfl : j = j), decide_eq_false (show ¬ j = z from fun h => hzk h.symm)]
              simp
            · rw [decide_eq_false e1']
              by_cases e2' : j = z
              · subst e2'; simp
              · have : ¬ some z = some j := fun h => e2' (Option.some.inj h).symm
                rw [decide_eq_false e2', decide_eq_false this]
                cases decide (j ∈ net e1 e2 sd l) <;> rfl
          have hM0 : ¬ M = 0 := fun h => by
            have := hbj z (by omega)
            rw [h, z0 z (by omega), decide_eq_true rfl] at this; cases this
          have tz := z_tz (d := d + 15) (I := J) (w := w) (n := n) (nc := nc) (ns := ns) (L := L) hT (x := M) (t := z) (by omega) (by rw [hbj z (by omega)]; exact decide_eq_true rfl) (fun i hi => by rw [hbj i (by omega)]; exact decide_eq_false (by omega))
          rw [ez]
          refine ab_C_of (by decide) rfl (Nat.le_of_ble_eq_true rfl) hT ?_
          refine r_M_look_0 hT _ (Nat.le_refl _) (Nat.le_refl _) ?_
          refine bb_f a1 (bb_f (by rw [z1]; exact a3) ?_)
          rw [nl_bit (I mx_now 1) (show k < 32 by omega), hs9]
          refine bb_t hs ⟨J, t4, ?_⟩
          rw [hM]
          exact bb_f' hM0 ⟨_, tz, rfl⟩
        · rw [if_neg hc]
          have hM0 : M = 0 := b_ext fun j hj => by
            rw [hb j hj, z0 j hj, t2, t3]
            unfold ftA ftO
            rw [show max 0 B = B by omega]
            by_cases h1 : p = true ∧ 0 < B
            · have h2 : ¬ (q = true ∧ B < 999) := fun h2 => hc ⟨h1, h2⟩
              rw [if_pos h1, if_pos h1, if_neg h2, if_neg h2, b_or, b_and, z0 j hj, zm j hj]
              cases bt x j <;> rfl
            · rw [if_neg h1, if_neg h1]
              by_cases h2 : q = true ∧ B < 999
              · rw [if_pos h2, if_pos h2, b_or, b_and, z0 j hj, zm j hj]
                cases bt y j <;> rfl
              · rw [if_neg h2, if_neg h2, b_or, z0 j hj]; rfl
          refine ab_C_of (by decide) rfl (Nat.le_of_ble_eq_true rfl) hT ?_
          refine r_M_look_0 hT _ (Nat.le_refl _) (Nat.le_refl _) ?_
          refine bb_f a1 (bb_f (by rw [z1]; exact a3) ?_)
          rw [nl_bit (I mx_now 1) (show k < 32 by omega), hs9]
          refine bb_t hs ⟨J, t4, ?_⟩
          rw [hM]
          exact bb_t' hM0 rfl
    · right; right
      refine ⟨kfr_refl, ?_, fun L n nc ns => ⟨0, _, mgr_x.1, mgr_x.2, ?_⟩⟩
      · refine ab_C_of (by decide) rfl (Nat.le_of_ble_eq_true rfl) hT ?_
        refine r_K_look_0 hT _ (Nat.le_add_right _ _) (Nat.le_add_right _ _) ?_
        exact Or.inl ⟨need, Or.inr ⟨_, ns2 hs, rfl⟩⟩
      · refine ab_C_of (by decide) rfl (Nat.le_of_ble_eq_true rfl) hT ?_
        refine r_M_look_0 hT _ (Nat.le_refl _) (Nat.le_refl _) ?_
        refine bb_f a1 (bb_f (by rw [z1]; exact a3) ?_)
        rw [nl_bit (I mx_now 1) (show k < 32 by omega), hs9]
        exact bb_f hs rfl
  · right; left
    refine ⟨kfr_refl, ?_, fun L n nc ns => ⟨0, _, mgr_x.1, mgr_x.2, ?_⟩⟩
    · refine ab_C_of (by decide) rfl (Nat.le_of_ble_eq_true rfl) hT ?_
      refine r_K_look_0 hT _ (Nat.le_add_right _ _) (Nat.le_add_right _ _) ?_
      exact Or.inr ⟨_, need, rfl⟩
    · refine ab_C_of (by decide) rfl (Nat.le_of_ble_eq_true rfl) hT ?_
      refine r_M_look_0 hT _ (Nat.le_refl _) (Nat.le_refl _) ?_
      rcases hbad with h | ⟨h1, h2⟩
      · exact bb_t h rfl
      · exact bb_f h1 (bb_t (by rw [z1]; exact h2) rfl)
theorem sh_zero {A S : Nat} (hA : A < 2 ^ 31) (hS : S ≤ 10) : (nI A >>> (nI S &&& 31)) = 0 ↔ A < 2 ^ S := by
  have bA : ∀ i, i < 32 → bt (nI A) i = A.testBit i := fun i hi => bt_nI A hi
  have z0 : ∀ j, j < 32 → bt (0 : Int32) j = false := fun j hj => by
    have : ∀ j : Fin 32, bt (0 : Int32) j.1 = false := by decide
    exact this ⟨j, hj⟩
  have h31 : A.testBit 31 = false := Nat.testBit_lt_two_pow hA
  constructor
  · intro h
    refine Nat.lt_pow_two_of_testBit A (fun i hi => ?_)
    by_cases h32 : i < 32
    · have := b_sshr S (by omega) (nI A) (i := i - S) (by omega)
      rw [h, z0 _ (by omega), if_pos (by omega), bA _ (by omega), show S + (i - S) = i by omega] at this
      exact this.symm
    · exact Nat.testBit_lt_two_pow (Nat.lt_of_lt_of_le hA (Nat.pow_le_pow_right (by decide) (by omega)))
  · intro h
    refine b_ext fun i hi => ?_
    rw [b_sshr S (by omega) (nI A) hi, z0 i hi]
    split
    · rw [bA _ (by omega)]
      exact Nat.testBit_lt_two_pow (Nat.lt_of_lt_of_le h (Nat.pow_le_pow_right (by decide) (by omega)))
    · rw [bA _ (by omega)]; exact h31
theorem j_joined (hT : w.1.stackTraces = false) (hR : RQ I S N sd e1 e2 pr fm l) (v : Int32) : (∃ J, qOk w (d + 16) mt_K_joined mt_M_joined [.int v] I L n nc ns J) ∨ qNo w (d + 16) mt_K_joined mt_M_joined [.int v] I L n nc ns I "java/lang/IllegalArgumentException" 1 := by
  obtain ⟨hq, hm, -⟩ := hR
  have p1 := hq.1.1.1
  have p3 := hq.1.1.2.2.1
  have z1 : I mx 2 = nI S := hm.1.1
  have hS10 : 2 ^ S ≤ 2 ^ 10 := Nat.pow_le_pow_right (by decide) p3
  have sp := sh_pow S p3
  have hpw := Nat.two_pow_pos S
  have e1' : nI (2 ^ S) - 1 = nI (2 ^ S - 1) := nI_sub (b := 1) (by omega)
  rcases v_rng v (2 ^ S) (by omega) with ⟨A, hA, e⟩ | hbad
  · subst e
    obtain ⟨a1, a2, a3, a4⟩ := v_rg1 hA (by omega)
    have hsz := (sh_zero (S := S) (show A < 2 ^ 31 by omega) p3).mpr hA
    left
    by_cases h2 : 2 ≤ fa_cnt (fun x => A.testBit x) 10
    · obtain ⟨J, best, b0, b1, b2, b3, b4⟩ := k_joining (d := d + 11) (w := w) (n := n) (nc := nc) (ns := ns) (L := L) hT hq.1 hA h2
      have b0 : kfr J I := fun c hc => b0 c (fun e => hc (by rw [e]; unfold kscr; decide)) (fun e => hc (by rw [e]; unfold kscr; decide)) (fun e => hc (by rw [e]; unfold kscr; decide))
      refine ⟨J, b0, shI best, ?_, fun L n nc ns => ?_⟩
      · refine ab_C_of (by decide) rfl (Nat.le_of_ble_eq_true rfl) hT ?_
        refine r_K_joined_0 hT _ (by omega) (Nat.le_refl _) (Nat.le_refl _) ?_
        rw [p1]
        exact bb_f a1 (bb_t hsz ⟨_, J, b4, rfl⟩)
      · obtain ⟨K, least, T, c1, c2, c3, c4, c5, c6, c7⟩ := z_joined (d := d + 13) (w := w) (n := n) (nc := nc) (ns := ns) (L := L) hT (mC_kfr b0 hm) hA h2
        rw [join_same (kC_ewp hq.1) p3 hA h2 b1 b2 b3 c3 c4 c5 c6]
        exact ⟨K, c1, c2, c7⟩
    · have b4 := k_joining0 (d := d + 11) (I := I) (w := w) (n := n) (nc := nc) (ns := ns) (L := L) hT (show A < 2 ^ 10 by omega) h2
      refine ⟨I, kfr_refl, 0, ?_, fun L n nc ns => ⟨_, mgr_0.1, mgr_0.2, ?_⟩⟩
      · refine ab_C_of (by decide) rfl (Nat.le_of_ble_eq_true rfl) hT ?_
        refine r_K_joined_0 hT _ (by omega) (Nat.le_refl _) (Nat.le_refl _) ?_
        rw [p1]
        exact bb_f a1 (bb_t hsz ⟨_, I, b4, rfl⟩)
      · have bc := bc_ok (w := w) (d := d + 15) (n := n) (nc := nc) (ns := ns) (I := ab_up I mx 1 0) (L := L) hT (A := A) (by omega)
        have hc10 : fa_cnt (fun x => A.testBit x) 10 ≤ 10 := fa_cnt_le _ _
        refine ab_C_of (by decide) rfl (Nat.le_of_ble_eq_true rfl) hT ?_
        refine r_M_joined_0 hT _ (Nat.le_refl _) (Nat.le_refl _) ?_
        rw [z1, sp]
        exact bb_f a1 (bb_f a3 ⟨_, bc, fun h => absurd ((nI_leI (a := 2) (by omega) (by omega)).mp h) h2, fun _ => rfl⟩)
  · right
    refine ⟨kfr_refl, ?_, fun L n nc ns => ⟨0, _, mgr_x.1, mgr_x.2, ?_⟩⟩
    · refine ab_C_of (by decide) rfl (Nat.le_of_ble_eq_true rfl) hT ?_
      refine r_K_joined_0 hT _ (by omega) (Nat.le_add_right _ _) (Nat.le_add_right _ _) ?_
      rcases hbad with h | ⟨h1, h2, h3, h4⟩
      · exact bb_t h rfl
      · refine bb_f h1 ?_
        rw [p1]
        refine bb_f (fun h => ?_) rfl
        obtain ⟨A, hA⟩ : ∃ A, A < 2 ^ 31 ∧ v = nI A := by
          rcases v_rng v (2 ^ 31 - 1) (by decide) with ⟨i, hi, e⟩ | g | ⟨-, g, -⟩
          · exact ⟨i, by omega, e⟩
          · exact absurd g h1
          · refine ⟨2 ^ 31 - 1, by decide, ?_⟩
            apply Int32.toInt_inj.mp
            rw [Int32.le_iff_toInt_le, nI_toInt (by decide)] at g
            rw [nI_toInt (by decide)]
            have := Int32.toInt_lt v
            omega
        rw [hA.2] at h h4
        exact h4 ((nI_ltI (by omega) (by omega)).mpr ((sh_zero hA.1 p3).mp h))
    · refine ab_C_of (by decide) rfl (Nat.le_of_ble_eq_true rfl) hT ?_
      refine r_M_joined_0 hT _ (Nat.le_refl _) (Nat.le_refl _) ?_
      rw [z1, sp]
      rcases hbad with h | ⟨h1, h2, h3, h4⟩
      · exact bb_t h rfl
      · exact bb_f h1 (bb_t h3 rfl)
end JLK
