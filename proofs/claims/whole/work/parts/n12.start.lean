/-! THE LAW'S START -/
theorem v_165 : (Cond.classLink "CableKeeperLaw" (8 : Nat) "CableKeeper") ∈ ab_T := ab_mg (ab_lw1 26 rfl) (by decide +kernel)
theorem v_166 : (Cond.instantiable "CableKeeper" (14 : Nat)) ∈ ab_T := ab_mg (ab_lw1 27 rfl) (by decide +kernel)
theorem v_167 : (Cond.methodLink "CableKeeperLaw" (69 : Nat) ({ cls := "CableKeeper", name := "<init>", desc := "()V" } : MethodName)) ∈ ab_T := ab_mg (ab_lw1 28 rfl) (by decide +kernel)
theorem v_168 : (Cond.instanceMethod ({ cls := "CableKeeper", name := "<init>", desc := "()V" } : MethodName)) ∈ ab_T := ab_mg (ab_lw1 29 rfl) (by decide +kernel)
theorem v_1357 : (Cond.classLink "CableKeeperLaw" (70 : Nat) "CableKeeperModel") ∈ ab_T := ab_mg (ab_lw6 18 rfl) (by decide +kernel)
theorem v_1358 : (Cond.instantiable "CableKeeperModel" (60 : Nat)) ∈ ab_T := ab_mg (ab_lw6 19 rfl) (by decide +kernel)
theorem v_1359 : (Cond.methodLink "CableKeeperLaw" (72 : Nat) ({ cls := "CableKeeperModel", name := "<init>", desc := "()V" } : MethodName)) ∈ ab_T := ab_mg (ab_lw6 20 rfl) (by decide +kernel)
theorem v_1360 : (Cond.instanceMethod ({ cls := "CableKeeperModel", name := "<init>", desc := "()V" } : MethodName)) ∈ ab_T := ab_mg (ab_lw6 21 rfl) (by decide +kernel)
theorem d_W_law_0 : decode (ab_bc mt_W_law) 0 = .ok (.new 8, 3) := by decide +kernel
theorem d_W_law_3 : decode (ab_bc mt_W_law) 3 = .ok (.dup, 1) := by decide +kernel
theorem d_W_law_4 : decode (ab_bc mt_W_law) 4 = .ok (.invokespecial 69, 3) := by decide +kernel
theorem d_W_law_7 : decode (ab_bc mt_W_law) 7 = .ok (.astore_n 1, 1) := by decide +kernel
theorem d_W_law_8 : decode (ab_bc mt_W_law) 8 = .ok (.new 70, 3) := by decide +kernel
theorem d_W_law_11 : decode (ab_bc mt_W_law) 11 = .ok (.dup, 1) := by decide +kernel
theorem d_W_law_12 : decode (ab_bc mt_W_law) 12 = .ok (.invokespecial 72, 3) := by decide +kernel
theorem d_W_law_15 : decode (ab_bc mt_W_law) 15 = .ok (.astore_n 2, 1) := by decide +kernel
theorem d_W_law_16 : decode (ab_bc mt_W_law) 16 = .ok (.iconst 1, 1) := by decide +kernel
theorem d_W_law_17 : decode (ab_bc mt_W_law) 17 = .ok (.newarray .long, 2) := by decide +kernel
theorem d_W_law_19 : decode (ab_bc mt_W_law) 19 = .ok (.astore_n 3, 1) := by decide +kernel
theorem d_W_law_20 : decode (ab_bc mt_W_law) 20 = .ok (.iconst 0, 1) := by decide +kernel
theorem d_W_law_21 : decode (ab_bc mt_W_law) 21 = .ok (.istore 4, 2) := by decide +kernel
def l_G : Nat → Nat → Int32 := cI_kx (ab_row (fun _ _ => 0) kx (fun _ => 0))
def l_F (J : Nat → Nat → Int32) : Nat → Nat → Int32 := ab_row (cI_mx (ab_row J mx (fun _ => 0))) ox_out (fun _ => 0)
def l_L : Nat → Nat → Int64 := ab_row (cL_mx (ab_row (cL_kx (ab_row (fun _ _ => 0) kx (fun _ => 0))) mx (fun _ => 0))) ox_out (fun _ => 0)
theorem l_ox : ∀ i, ab_bl i ≤ 91 → ab_row ab_RR ox_out (fun _ => .null) i = ab_RR i := by
  intro i _
  exact cQ_all (ids := [ox_out]) (cQ_row (by decide +kernel) cQ_0) (by decide +kernel) i
theorem l_kC : kC l_G 4 0 (fun _ => false) (fun _ => 0) (fun _ => 0) (fun _ => 0) (fun _ => 0) [] := by
  refine ⟨⟨by decide +kernel, by decide +kernel, by decide, by decide, rfl, fun i hi => absurd hi (Nat.not_lt_zero i), (fun k hk => by cases hk), fun k hk => absurd hk (Nat.not_lt_zero k)⟩, ⟨List.Pairwise.nil, fun k => ⟨fun h => absurd h List.not_mem_nil, fun h => absurd h (Nat.not_lt_zero k)⟩⟩, by decide, fun k hk => ?_, fun k hk => (by cases hk), fun k hk => absurd hk (Nat.not_lt_zero k)⟩
  rw [show l_G kx_now_cables 2 = 0 from by decide +kernel]
  exact b_0 k
theorem l_F_kx_now (J : Nat → Nat → Int32) : l_F J kx_now = J kx_now := rfl
theorem l_F_kx_now_cables (J : Nat → Nat → Int32) : l_F J kx_now_cables = J kx_now_cables := rfl
theorem l_F_kx_now_cables_first (J : Nat → Nat → Int32) : l_F J kx_now_cables_first = J kx_now_cables_first := rfl
theorem l_F_kx_now_cables_second (J : Nat → Nat → Int32) : l_F J kx_now_cables_second = J kx_now_cables_second := rfl
theorem l_F_kx_now_cables_price (J : Nat → Nat → Int32) : l_F J kx_now_cables_price = J kx_now_cables_price := rfl
theorem l_F_kx_now_cables_firm (J : Nat → Nat → Int32) : l_F J kx_now_cables_firm = J kx_now_cables_firm := rfl
theorem l_F_kx_now_cables_order (J : Nat → Nat → Int32) : l_F J kx_now_cables_order = J kx_now_cables_order := rfl
theorem l_F_kx_now_swaps (J : Nat → Nat → Int32) : l_F J kx_now_swaps = J kx_now_swaps := rfl
theorem l_F_kx_now_swaps_rows (J : Nat → Nat → Int32) : l_F J kx_now_swaps_rows = J kx_now_swaps_rows := rfl
theorem l_F_kx_now_acts (J : Nat → Nat → Int32) : l_F J kx_now_acts = J kx_now_acts := rfl
theorem l_F_kx_now_refused (J : Nat → Nat → Int32) : l_F J kx_now_refused = J kx_now_refused := rfl
theorem l_F_kx (J : Nat → Nat → Int32) : l_F J kx = J kx := rfl
theorem l_F_kx_forest (J : Nat → Nat → Int32) : l_F J kx_forest = J kx_forest := rfl
theorem l_F_kx_forest_order (J : Nat → Nat → Int32) : l_F J kx_forest_order = J kx_forest_order := rfl
theorem l_F_kx_forest_piece (J : Nat → Nat → Int32) : l_F J kx_forest_piece = J kx_forest_piece := rfl
theorem l_F_kx_ways (J : Nat → Nat → Int32) : l_F J kx_ways = J kx_ways := rfl
theorem l_F_kx_ways_span (J : Nat → Nat → Int32) : l_F J kx_ways_span = J kx_ways_span := rfl
theorem l_F_kx_ways_hops (J : Nat → Nat → Int32) : l_F J kx_ways_hops = J kx_ways_hops := rfl
theorem l_F_kx_ways_step (J : Nat → Nat → Int32) : l_F J kx_ways_step = J kx_ways_step := rfl
theorem l_F_kx_ways_dearest (J : Nat → Nat → Int32) : l_F J kx_ways_dearest = J kx_ways_dearest := rfl
theorem l_F_mx_now (J : Nat → Nat → Int32) : l_F J mx_now = fun _ => 0 := rfl
theorem l_F_mx_status (J : Nat → Nat → Int32) : l_F J mx_status = fun _ => 0 := rfl
theorem l_F_mx2 (J : Nat → Nat → Int32) : l_F J mx 2 = 4 := rfl
theorem l_F_mx17 (J : Nat → Nat → Int32) : l_F J mx 17 = -1 := rfl
theorem l_F_mx8 (J : Nat → Nat → Int32) : l_F J mx 8 = 0 := rfl
theorem l_F_mx52 (J : Nat → Nat → Int32) : l_F J mx 52 = 0 := rfl
theorem l_F_mx41 (J : Nat → Nat → Int32) : l_F J mx 41 = 0 := rfl
theorem l_F_mx43 (J : Nat → Nat → Int32) : l_F J mx 43 = 0 := rfl
theorem l_F_mx1 (J : Nat → Nat → Int32) : l_F J mx 1 = 0 := rfl
theorem l_RR {J : Nat → Nat → Int32} (j1 : ∀ c, ¬ knc c → J c = l_G c) (j2 : kQ J 4 0 (fun _ => false) (fun _ => 0) (fun _ => 0) (fun _ => 0) (fun _ => 0) []) : RR (l_F J) 0 := by
  have z0 : ∀ k, bt (0 : Int32) k = false := fun k => b_0 k
  have od0 : od (fun _ => 0) 0 [] := ⟨List.Pairwise.nil, fun k => ⟨fun h => absurd h List.not_mem_nil, fun h => absurd h (Nat.not_lt_zero k)⟩⟩
  have jn : J kx_now = l_G kx_now := j1 _ (by unfold knc; decide)
  have jx : J kx = l_G kx := j1 _ (by unfold knc; decide)
  refine ⟨4, ⟨0, fun _ => false, fun _ => 0, fun _ => 0, fun _ => 0, fun _ => 0, [], 0, fun _ _ => 0, 0, 0, fun _ => ct 0 (fun _ => false) (fun _ => 0) 0, fun _ _ => 0, 0, fun _ => 0, fun _ => true, ⟨?_, ?_, ?_, ?_, ?_, ?_, ?_, by omega, ?_, ?_, ?_⟩, ?_⟩, ?_, ?_⟩
  · exact kC_cong (l_F_kx_now_cables J) (l_F_kx_now_cables_first J) (l_F_kx_now_cables_second J) (l_F_kx_now_cables_price J) (l_F_kx_now_cables_firm J) (l_F_kx_now_cables_order J) j2.1
  · refine ⟨⟨l_F_mx2 J, by rw [l_F_mx_now]; rfl, by decide, by decide, od0, fun k hk => absurd hk (Nat.not_lt_zero k)⟩, by decide, fun k hk => ?_, fun k hk => (by cases hk), fun k hk => absurd hk (Nat.not_lt_zero k)⟩
    rw [l_F_mx_now]; exact z0 k
  · refine ⟨?_, Nat.le_refl _, by omega, fun j hj => absurd hj (Nat.not_lt_zero j)⟩
    rw [l_F_kx_now_swaps, j1 _ (by unfold knc; decide)]; decide +kernel
  · exact ⟨by rw [l_F_mx_now]; rfl, fun j hj => absurd hj (Nat.not_lt_zero j)⟩
  · refine ⟨?_, by omega, ?_, by omega, fun a ha => absurd ha (Nat.not_lt_zero a)⟩
    · rw [l_F_kx_now_acts, j1 _ (by unfold knc; decide)]; decide +kernel
    · rw [l_F_kx_now_acts, j1 _ (by unfold knc; decide)]; decide +kernel
  · exact ⟨l_F_mx41 J, by omega, fun a ha => absurd ha (Nat.not_lt_zero a)⟩
  · exact ⟨fun a ha => absurd ha (Nat.not_lt_zero a), fun a ha => absurd ha (Nat.not_lt_zero (a + 1)), fun a ha => by omega⟩
  · rw [l_F_kx_now, jn]; decide +kernel
  · refine ⟨l_F_mx43 J, by omega, fun i hi => absurd hi (Nat.not_lt_zero i), fun k hk => ?_, fun k hk => ?_⟩
    · rw [l_F_kx_now, jn, show l_G kx_now 4 = 0 from by decide +kernel, z0 k]; exact ⟨fun h => absurd h (by decide), fun ⟨i, h, _⟩ => absurd h (Nat.not_lt_zero i)⟩
    · rw [l_F_kx_now, jn, show l_G kx_now 5 = 0 from by decide +kernel, z0 k]; exact ⟨fun h => absurd h (by decide), fun ⟨i, h, _⟩ => absurd h (Nat.not_lt_zero i)⟩
  · unfold rfE
    rw [l_F_kx_now_refused, l_F_mx_status, j1 _ (by unfold knc; decide)]
    exact ⟨by decide +kernel, by decide +kernel, by decide +kernel⟩
  · exact kN_cong (fun a ha => by unfold knc at ha; rcases ha with e | e | e | e | e | e | e | e <;> subst e <;> rfl) j2.2
  · exact ⟨by rw [l_F_kx, jx, l_F_mx17]; decide +kernel, 0, fun _ => 0, by rw [l_F_kx, jx]; decide +kernel, l_F_mx8 J, by omega, fun j hj => absurd hj (Nat.not_lt_zero j)⟩
  · exact ⟨by rw [l_F_kx, jx, l_F_mx52]; decide +kernel, Or.inl (by rw [l_F_kx, jx]; decide +kernel)⟩
theorem l_start {w : ab_Wd} {d nc ns : Nat} (hT : w.1.stackTraces = false) : ∃ F : Nat → Nat → Int32, RR F 0 ∧ ∀ res : ab_Re, nc + 1 + 61 + 1 + 27 + 1 ≤ res.2.2.2.2.2.1 → ns + 14 + 700 + 7 + 8 + 24 + 24 + 24 + 24 + 24 + 2 + 1024 + 6 + 960 + 40 + 40 + 40 + 3 + 7 + 8 + 24 + 24 + 24 + 24 + 24 + 2 + 1024 + 6 + 960 + 40 + 40 + 40 + 3 + 6 + 9 + 10 + 5 + 100 + 100 + 100 + 100 + 8 + 24 + 24 + 24 + 24 + 24 + 6 + 9 + 10 + 24 + 5 + 100 + 10 + 24 + 10 + 4 + 10 + 10 + 100 + 10 + 2 + 700 + 60 + 3 + 399 + 399 + 3 + 700 + 10 + 24 + 10 + 10 + 10 + 24 + 10 + 24 + 10 + 10 + 10 + 100 + 10240 + 15960 + 8 + 8 + 399 + 399 + 15960 + 8 + 8 + 3 + 1 ≤ res.2.2.2.2.2.2 → ab_E w (d + 18) mt_W_law 23 [.ref 34, .ref kx, .ref mx, .ref ox_out, .int 0, .null, .null] [] (F, l_L, ab_RR, 91, nc + 1 + 61 + 1 + 27 + 1, ns + 14 + 700 + 7 + 8 + 24 + 24 + 24 + 24 + 24 + 2 + 1024 + 6 + 960 + 40 + 40 + 40 + 3 + 7 + 8 + 24 + 24 + 24 + 24 + 24 + 2 + 1024 + 6 + 960 + 40 + 40 + 40 + 3 + 6 + 9 + 10 + 5 + 100 + 100 + 100 + 100 + 8 + 24 + 24 + 24 + 24 + 24 + 6 + 9 + 10 + 24 + 5 + 100 + 10 + 24 + 10 + 4 + 10 + 10 + 100 + 10 + 2 + 700 + 60 + 3 + 399 + 399 + 3 + 700 + 10 + 24 + 10 + 10 + 10 + 24 + 10 + 24 + 10 + 10 + 10 + 100 + 10240 + 15960 + 8 + 8 + 399 + 399 + 15960 + 8 + 8 + 3 + 1) res → ab_E w (d + 18) mt_W_law 0 [.ref 34, .null, .null, .null, .null, .null, .null] [] (fun _ _ => 0, fun _ _ => 0, ab_RR, 0, nc, ns) res := by
  obtain ⟨J, j1, j2, u⟩ := k_settle (d := d + 12) (w := w) (n := 62) (nc := nc + 1 + 61) (ns := ns + 14 + 700 + 7 + 8 + 24 + 24 + 24 + 24 + 24 + 2 + 1024 + 6 + 960 + 40 + 40 + 40 + 3 + 7 + 8 + 24 + 24 + 24 + 24 + 24 + 2 + 1024 + 6 + 960 + 40 + 40 + 40 + 3 + 6 + 9 + 10 + 5 + 100 + 100 + 100 + 100 + 8 + 24 + 24 + 24 + 24 + 24 + 6 + 9 + 10 + 24 + 5 + 100 + 10 + 24 + 10 + 4 + 10 + 10 + 100 + 10 + 2 + 700) (L := cL_kx (ab_row (fun _ _ => 0) kx (fun _ => 0))) hT l_kC
  have hK := c_kx (w := w) (d := d + 12) (nc := nc + 1) (ns := ns + 14) (I := ab_row (fun _ _ => 0) kx (fun _ => 0)) (L := ab_row (fun _ _ => 0) kx (fun _ => 0)) hT u
  have hM := c_mx (w := w) (d := d + 16) (nc := nc + 1 + 61 + 1) (ns := ns + 14 + 700 + 7 + 8 + 24 + 24 + 24 + 24 + 24 + 2 + 1024 + 6 + 960 + 40 + 40 + 40 + 3 + 7 + 8 + 24 + 24 + 24 + 24 + 24 + 2 + 1024 + 6 + 960 + 40 + 40 + 40 + 3 + 6 + 9 + 10 + 5 + 100 + 100 + 100 + 100 + 8 + 24 + 24 + 24 + 24 + 24 + 6 + 9 + 10 + 24 + 5 + 100 + 10 + 24 + 10 + 4 + 10 + 10 + 100 + 10 + 2 + 700 + 60) (I := ab_row J mx (fun _ => 0)) (L := ab_row (cL_kx (ab_row (fun _ _ => 0) kx (fun _ => 0))) mx (fun _ => 0)) hT
  refine ⟨l_F J, l_RR j1 j2, fun res hc hs k => ?_⟩
  refine ab_new0 (i := kx) (ci := 10) (show ab_bl kx = 0 + 1 from by decide) (by decide) d_W_law_0 (by decide) v_165 v_166 v_140 (show nc + 1 ≤ _ by omega) (show ns + 14 ≤ _ by omega) ?_
  show ab_E w (d + 18) mt_W_law 3 [.ref 34, .null, .null, .null, .null, .null, .null] [.ref kx] ((ab_row (fun _ _ => 0) kx (fun _ => 0)), (ab_row (fun _ _ => 0) kx (fun _ => 0)), ab_row ab_RR kx (fun _ => .null), 1, nc + 1, ns + 14) res
  refine ab_dupr d_W_law_3 ?_
  refine ab_callI (me2 := mt_K_init) (b := kx) (as := []) (st := [.ref kx]) (M2 := (J, cL_kx (ab_row (fun _ _ => 0) kx (fun _ => 0)), ab_RR, 62, nc + 1 + 61, ns + 14 + 700 + 7 + 8 + 24 + 24 + 24 + 24 + 24 + 2 + 1024 + 6 + 960 + 40 + 40 + 40 + 3 + 7 + 8 + 24 + 24 + 24 + 24 + 24 + 2 + 1024 + 6 + 960 + 40 + 40 + 40 + 3 + 6 + 9 + 10 + 5 + 100 + 100 + 100 + 100 + 8 + 24 + 24 + 24 + 24 + 24 + 6 + 9 + 10 + 24 + 5 + 100 + 10 + 24 + 10 + 4 + 10 + 10 + 100 + 10 + 2 + 700)) d_W_law_4 ce_K_init (Or.inl v_167) v_168 rfl rfl (Nat.le_of_ble_eq_true rfl) hK (show nc + 1 ≤ nc + 1 + 61 by omega) (show ns + 14 ≤ ns + 14 + 700 + 7 + 8 + 24 + 24 + 24 + 24 + 24 + 2 + 1024 + 6 + 960 + 40 + 40 + 40 + 3 + 7 + 8 + 24 + 24 + 24 + 24 + 24 + 2 + 1024 + 6 + 960 + 40 + 40 + 40 + 3 + 6 + 9 + 10 + 5 + 100 + 100 + 100 + 100 + 8 + 24 + 24 + 24 + 24 + 24 + 6 + 9 + 10 + 24 + 5 + 100 + 10 + 24 + 10 + 4 + 10 + 10 + 100 + 10 + 2 + 700 by omega) (show nc + 1 + 61 ≤ _ by omega) (show ns + 14 + 700 + 7 + 8 + 24 + 24 + 24 + 24 + 24 + 2 + 1024 + 6 + 960 + 40 + 40 + 40 + 3 + 7 + 8 + 24 + 24 + 24 + 24 + 24 + 2 + 1024 + 6 + 960 + 40 + 40 + 40 + 3 + 6 + 9 + 10 + 5 + 100 + 100 + 100 + 100 + 8 + 24 + 24 + 24 + 24 + 24 + 6 + 9 + 10 + 24 + 5 + 100 + 10 + 24 + 10 + 4 + 10 + 10 + 100 + 10 + 2 + 700 ≤ _ by omega) (show 1 ≤ 62 by omega) ?_
  show ab_E w (d + 18) mt_W_law 7 [.ref 34, .null, .null, .null, .null, .null, .null] [.ref kx] (J, cL_kx (ab_row (fun _ _ => 0) kx (fun _ => 0)), ab_RR, 62, nc + 1 + 61, ns + 14 + 700 + 7 + 8 + 24 + 24 + 24 + 24 + 24 + 2 + 1024 + 6 + 960 + 40 + 40 + 40 + 3 + 7 + 8 + 24 + 24 + 24 + 24 + 24 + 2 + 1024 + 6 + 960 + 40 + 40 + 40 + 3 + 6 + 9 + 10 + 5 + 100 + 100 + 100 + 100 + 8 + 24 + 24 + 24 + 24 + 24 + 6 + 9 + 10 + 24 + 5 + 100 + 10 + 24 + 10 + 4 + 10 + 10 + 100 + 10 + 2 + 700) res
  refine ab_astore_n (i := 1) d_W_law_7 rfl (by decide) (Or.inr rfl) ?_
  refine ab_new0 (i := mx) (ci := 11) (show ab_bl mx = 62 + 1 from by decide) (by decide) d_W_law_8 (by decide) v_1357 v_1358 v_151 (show nc + 1 + 61 + 1 ≤ _ by omega) (show ns + 14 + 700 + 7 + 8 + 24 + 24 + 24 + 24 + 24 + 2 + 1024 + 6 + 960 + 40 + 40 + 40 + 3 + 7 + 8 + 24 + 24 + 24 + 24 + 24 + 2 + 1024 + 6 + 960 + 40 + 40 + 40 + 3 + 6 + 9 + 10 + 5 + 100 + 100 + 100 + 100 + 8 + 24 + 24 + 24 + 24 + 24 + 6 + 9 + 10 + 24 + 5 + 100 + 10 + 24 + 10 + 4 + 10 + 10 + 100 + 10 + 2 + 700 + 60 ≤ _ by omega) ?_
  show ab_E w (d + 18) mt_W_law 11 [.ref 34, .ref kx, .null, .null, .null, .null, .null] [.ref mx] (ab_row J mx (fun _ => 0), ab_row (cL_kx (ab_row (fun _ _ => 0) kx (fun _ => 0))) mx (fun _ => 0), ab_row ab_RR mx (fun _ => .null), 63, nc + 1 + 61 + 1, ns + 14 + 700 + 7 + 8 + 24 + 24 + 24 + 24 + 24 + 2 + 1024 + 6 + 960 + 40 + 40 + 40 + 3 + 7 + 8 + 24 + 24 + 24 + 24 + 24 + 2 + 1024 + 6 + 960 + 40 + 40 + 40 + 3 + 6 + 9 + 10 + 5 + 100 + 100 + 100 + 100 + 8 + 24 + 24 + 24 + 24 + 24 + 6 + 9 + 10 + 24 + 5 + 100 + 10 + 24 + 10 + 4 + 10 + 10 + 100 + 10 + 2 + 700 + 60) res
  refine ab_dupr d_W_law_11 ?_
  refine ab_callI (me2 := mt_M_init) (b := mx) (as := []) (st := [.ref mx]) (M2 := (cI_mx (ab_row J mx (fun _ => 0)), cL_mx (ab_row (cL_kx (ab_row (fun _ _ => 0) kx (fun _ => 0))) mx (fun _ => 0)), ab_RR, 90, nc + 1 + 61 + 1 + 27, ns + 14 + 700 + 7 + 8 + 24 + 24 + 24 + 24 + 24 + 2 + 1024 + 6 + 960 + 40 + 40 + 40 + 3 + 7 + 8 + 24 + 24 + 24 + 24 + 24 + 2 + 1024 + 6 + 960 + 40 + 40 + 40 + 3 + 6 + 9 + 10 + 5 + 100 + 100 + 100 + 100 + 8 + 24 + 24 + 24 + 24 + 24 + 6 + 9 + 10 + 24 + 5 + 100 + 10 + 24 + 10 + 4 + 10 + 10 + 100 + 10 + 2 + 700 + 60 + 3 + 399 + 399 + 3 + 700 + 10 + 24 + 10 + 10 + 10 + 24 + 10 + 24 + 10 + 10 + 10 + 100 + 10240 + 15960 + 8 + 8 + 399 + 399 + 15960 + 8 + 8 + 3)) d_W_law_12 ce_M_init (Or.inl v_1359) v_1360 rfl rfl (Nat.le_of_ble_eq_true rfl) hM (show nc + 1 + 61 + 1 ≤ nc + 1 + 61 + 1 + 27 by omega) (show ns + 14 + 700 + 7 + 8 + 24 + 24 + 24 + 24 + 24 + 2 + 1024 + 6 + 960 + 40 + 40 + 40 + 3 + 7 + 8 + 24 + 24 + 24 + 24 + 24 + 2 + 1024 + 6 + 960 + 40 + 40 + 40 + 3 + 6 + 9 + 10 + 5 + 100 + 100 + 100 + 100 + 8 + 24 + 24 + 24 + 24 + 24 + 6 + 9 + 10 + 24 + 5 + 100 + 10 + 24 + 10 + 4 + 10 + 10 + 100 + 10 + 2 + 700 + 60 ≤ ns + 14 + 700 + 7 + 8 + 24 + 24 + 24 + 24 + 24 + 2 + 1024 + 6 + 960 + 40 + 40 + 40 + 3 + 7 + 8 + 24 + 24 + 24 + 24 + 24 + 2 + 1024 + 6 + 960 + 40 + 40 + 40 + 3 + 6 + 9 + 10 + 5 + 100 + 100 + 100 + 100 + 8 + 24 + 24 + 24 + 24 + 24 + 6 + 9 + 10 + 24 + 5 + 100 + 10 + 24 + 10 + 4 + 10 + 10 + 100 + 10 + 2 + 700 + 60 + 3 + 399 + 399 + 3 + 700 + 10 + 24 + 10 + 10 + 10 + 24 + 10 + 24 + 10 + 10 + 10 + 100 + 10240 + 15960 + 8 + 8 + 399 + 399 + 15960 + 8 + 8 + 3 by omega) (show nc + 1 + 61 + 1 + 27 ≤ _ by omega) (show ns + 14 + 700 + 7 + 8 + 24 + 24 + 24 + 24 + 24 + 2 + 1024 + 6 + 960 + 40 + 40 + 40 + 3 + 7 + 8 + 24 + 24 + 24 + 24 + 24 + 2 + 1024 + 6 + 960 + 40 + 40 + 40 + 3 + 6 + 9 + 10 + 5 + 100 + 100 + 100 + 100 + 8 + 24 + 24 + 24 + 24 + 24 + 6 + 9 + 10 + 24 + 5 + 100 + 10 + 24 + 10 + 4 + 10 + 10 + 100 + 10 + 2 + 700 + 60 + 3 + 399 + 399 + 3 + 700 + 10 + 24 + 10 + 10 + 10 + 24 + 10 + 24 + 10 + 10 + 10 + 100 + 10240 + 15960 + 8 + 8 + 399 + 399 + 15960 + 8 + 8 + 3 ≤ _ by omega) (show 63 ≤ 90 by omega) ?_
  show ab_E w (d + 18) mt_W_law 15 [.ref 34, .ref kx, .null, .null, .null, .null, .null] [.ref mx] (cI_mx (ab_row J mx (fun _ => 0)), cL_mx (ab_row (cL_kx (ab_row (fun _ _ => 0) kx (fun _ => 0))) mx (fun _ => 0)), ab_RR, 90, nc + 1 + 61 + 1 + 27, ns + 14 + 700 + 7 + 8 + 24 + 24 + 24 + 24 + 24 + 2 + 1024 + 6 + 960 + 40 + 40 + 40 + 3 + 7 + 8 + 24 + 24 + 24 + 24 + 24 + 2 + 1024 + 6 + 960 + 40 + 40 + 40 + 3 + 6 + 9 + 10 + 5 + 100 + 100 + 100 + 100 + 8 + 24 + 24 + 24 + 24 + 24 + 6 + 9 + 10 + 24 + 5 + 100 + 10 + 24 + 10 + 4 + 10 + 10 + 100 + 10 + 2 + 700 + 60 + 3 + 399 + 399 + 3 + 700 + 10 + 24 + 10 + 10 + 10 + 24 + 10 + 24 + 10 + 10 + 10 + 100 + 10240 + 15960 + 8 + 8 + 399 + 399 + 15960 + 8 + 8 + 3) res
  refine ab_astore_n (i := 2) d_W_law_15 rfl (by decide) (Or.inr rfl) ?_
  refine ab_iconst (v := 1) d_W_law_16 rfl ?_
  refine ab_newa_long (i := ox_out) (n := 1) (show ab_bl ox_out = 90 + 1 from by decide) (by decide) (by decide) d_W_law_17 v_420 (by decide) (by decide) (show nc + 1 + 61 + 1 + 27 + 1 ≤ _ by omega) (show ns + 14 + 700 + 7 + 8 + 24 + 24 + 24 + 24 + 24 + 2 + 1024 + 6 + 960 + 40 + 40 + 40 + 3 + 7 + 8 + 24 + 24 + 24 + 24 + 24 + 2 + 1024 + 6 + 960 + 40 + 40 + 40 + 3 + 6 + 9 + 10 + 5 + 100 + 100 + 100 + 100 + 8 + 24 + 24 + 24 + 24 + 24 + 6 + 9 + 10 + 24 + 5 + 100 + 10 + 24 + 10 + 4 + 10 + 10 + 100 + 10 + 2 + 700 + 60 + 3 + 399 + 399 + 3 + 700 + 10 + 24 + 10 + 10 + 10 + 24 + 10 + 24 + 10 + 10 + 10 + 100 + 10240 + 15960 + 8 + 8 + 399 + 399 + 15960 + 8 + 8 + 3 + 1 ≤ _ by omega) ?_
  show ab_E w (d + 18) mt_W_law 19 [.ref 34, .ref kx, .ref mx, .null, .null, .null, .null] [.ref ox_out] (l_F J, l_L, ab_row ab_RR ox_out (fun _ => .null), 91, nc + 1 + 61 + 1 + 27 + 1, ns + 14 + 700 + 7 + 8 + 24 + 24 + 24 + 24 + 24 + 2 + 1024 + 6 + 960 + 40 + 40 + 40 + 3 + 7 + 8 + 24 + 24 + 24 + 24 + 24 + 2 + 1024 + 6 + 960 + 40 + 40 + 40 + 3 + 6 + 9 + 10 + 5 + 100 + 100 + 100 + 100 + 8 + 24 + 24 + 24 + 24 + 24 + 6 + 9 + 10 + 24 + 5 + 100 + 10 + 24 + 10 + 4 + 10 + 10 + 100 + 10 + 2 + 700 + 60 + 3 + 399 + 399 + 3 + 700 + 10 + 24 + 10 + 10 + 10 + 24 + 10 + 24 + 10 + 10 + 10 + 100 + 10240 + 15960 + 8 + 8 + 399 + 399 + 15960 + 8 + 8 + 3 + 1) res
  refine ab_E_R (R' := ab_RR) l_ox ?_
  refine ab_astore_n (i := 3) d_W_law_19 rfl (by decide) (Or.inr rfl) ?_
  refine ab_iconst (v := 0) d_W_law_20 rfl ?_
  exact ab_istore (i := 4) d_W_law_21 (by decide) (Or.inr rfl) k
