/-! ACTS side by side: what all of them share -/
def jA (w : ab_Wd) (d : Nat) (mk mm : ab_Me) (as : List Value) (I : Nat → Nat → Int32) (L : Nat → Nat → Int64) (n nc ns : Nat) (T : Nat) : Prop := ∃ r J, ab_PU w d mk (.ref kx :: as) I L n nc ns r J ∧ ∀ L n nc ns, ∃ K, ab_PU w d mm (.ref mx :: as) J L n nc ns r K ∧ RR K T
/-- the class's cells that acts change -/
def kac (c : Nat) : Prop := c = kx_now_cables ∨ c = kx_now_cables_first ∨ c = kx_now_cables_second ∨ c = kx_now_cables_price ∨ c = kx_now_cables_firm ∨ c = kx_now_cables_order ∨ c = kx_now_swaps ∨ c = kx_now_swaps_rows ∨ c = kx_now_acts ∨ c = kx_now_acts_prices ∨ c = kx_now_acts_counts ∨ c = kx_now_acts_sounds ∨ c = kx_now_acts_swaps ∨ knc c
def kaf (J I : Nat → Nat → Int32) : Prop := ∀ c, ¬ kac c → J c = I c
def maf (K J : Nat → Nat → Int32) : Prop := (∀ c, ¬ mscr c → c ≠ mx_now → c ≠ mx_past → K c = J c) ∧ ∀ k, mkf k → k ≠ 1 → k ≠ 41 → K mx k = J mx k
theorem kaf_trans {K J I : Nat → Nat → Int32} (h : kaf K J) (g : kaf J I) : kaf K I := fun c hc => (h c hc).trans (g c hc)
theorem maf_trans {K J I : Nat → Nat → Int32} (h : maf K J) (g : maf J I) : maf K I := ⟨fun c h1 h2 h3 => (h.1 c h1 h2 h3).trans (g.1 c h1 h2 h3), fun k h1 h2 h3 => (h.2 k h1 h2 h3).trans (g.2 k h1 h2 h3)⟩
theorem kaf_ak {J I : Nat → Nat → Int32} (h : akf J I) : kaf J I := fun c hc => h c (fun e => hc (by rw [e]; unfold kac knc; decide)) (fun e => hc (by rw [e]; unfold kac knc; decide)) (fun e => hc (by rw [e]; unfold kac knc; decide)) (fun e => hc (by rw [e]; unfold kac knc; decide)) (fun e => hc (by rw [e]; unfold kac knc; decide))
theorem kaf_tp {J I : Nat → Nat → Int32} (h : tpf J I) : kaf J I := fun c hc => h c (fun e => hc (by rw [e]; unfold kac knc; decide)) (fun e => hc (by rw [e]; unfold kac knc; decide)) (fun e => hc (by rw [e]; unfold kac knc; decide)) (fun e => hc (by rw [e]; unfold kac knc; decide)) (fun e => hc (by rw [e]; unfold kac knc; decide)) (fun e => hc (by rw [e]; unfold kac knc; decide)) (fun e => hc (by rw [e]; unfold kac knc; decide))
theorem kaf_rg {J I : Nat → Nat → Int32} (h : rgf J I) : kaf J I := fun c hc => h c (fun e => hc (by rw [e]; unfold kac knc; decide)) (fun e => hc (by rw [e]; unfold kac knc; decide)) (fun e => hc (by rw [e]; unfold kac knc; decide)) (fun e => hc (by rw [e]; unfold kac knc; decide)) (fun e => hc (by rw [e]; unfold kac knc; decide))
theorem kaf_wy {J I : Nat → Nat → Int32} (h : ∀ a, a ≠ kx_ways → a ≠ kx_ways_span → a ≠ kx_ways_hops → a ≠ kx_ways_step → a ≠ kx_ways_dearest → J a = I a) : kaf J I := fun c hc => h c (fun e => hc (by rw [e]; unfold kac knc; decide)) (fun e => hc (by rw [e]; unfold kac knc; decide)) (fun e => hc (by rw [e]; unfold kac knc; decide)) (fun e => hc (by rw [e]; unfold kac knc; decide)) (fun e => hc (by rw [e]; unfold kac knc; decide))
theorem maf_c {J : Nat → Nat → Int32} {x : Int32} : maf (ab_up J mx 1 x) J := ⟨fun c h1 _ _ => by rw [ab_up_o (fun e => h1 (by rw [e]; exact Or.inl rfl))], fun k _ h1 _ => by rw [ab_up_i, pk_un h1]⟩
theorem maf_ak {K J : Nat → Nat → Int32} (h : akm K J) : maf K J := ⟨fun c h1 _ h3 => h.1 c h3 (fun e => h1 (by rw [e]; exact Or.inl rfl)), fun k _ _ h2 => h.2 k h2⟩
theorem maf_ma {K J : Nat → Nat → Int32} (h : mar K J) : maf K J := ⟨fun c h1 h2 _ => h.1 c h1 h2, fun k h1 _ _ => h.2 k h1⟩
theorem maf_mf {K J : Nat → Nat → Int32} (h : mfr K J) : maf K J := maf_ma (mar_of h)
theorem mscr_ge {c : Nat} (h : mscr c) : mx ≤ c := by
  unfold mscr at h
  rcases h with e | e | e | e | e | e | e | e | e | e | e | e | e | e | e <;> subst e <;> decide
theorem kac_lt {c : Nat} (h : kac c) : c < mx := by
  unfold kac knc at h
  rcases h with e | e | e | e | e | e | e | e | e | e | e | e | e | e | e | e | e | e | e | e | e <;> subst e <;> decide
theorem maf_lt {K J : Nat → Nat → Int32} (h : maf K J) {c : Nat} (hc : c < mx) : K c = J c := h.1 c (fun e => by have := mscr_ge e; omega) (fun e => by rw [e] at hc; exact absurd hc (by decide)) (fun e => by rw [e] at hc; exact absurd hc (by decide))
theorem kaf_ge {J I : Nat → Nat → Int32} (h : kaf J I) {c : Nat} (hc : mx ≤ c) : J c = I c := h c (fun e => by have := kac_lt e; omega)
section AC2
variable {w : ab_Wd} {d n nc ns : Nat} {I : Nat → Nat → Int32} {L : Nat → Nat → Int64}
variable {S T N : Nat} {sd : Nat → Bool} {e1 e2 pr fm : Nat → Nat} {l : List Nat} {E : Nat} {h : Nat → Nat → Nat} {o m : Nat} {ac : Nat → Ac} {rr : Nat → Nat → Int32} {mn : Nat} {cb : Nat → Nat} {ib : Nat → Bool}
theorem kC_cong {J : Nat → Nat → Int32} (z1 : J kx_now_cables = I kx_now_cables) (z2 : J kx_now_cables_first = I kx_now_cables_first) (z3 : J kx_now_cables_second = I kx_now_cables_second) (z4 : J kx_now_cables_price = I kx_now_cables_price) (z5 : J kx_now_cables_firm = I kx_now_cables_firm) (z6 : J kx_now_cables_order = I kx_now_cables_order) (hc : kC I S N sd e1 e2 pr fm l) : kC J S N sd e1 e2 pr fm l := by
  unfold kC gr_pre at *
  rw [z1, z2, z3, z4, z5, z6]; exact hc
theorem aK_cong {J : Nat → Nat → Int32} (z1 : J kx_now_acts = I kx_now_acts) (z2 : J kx_now_acts_prices = I kx_now_acts_prices) (z3 : J kx_now_acts_counts = I kx_now_acts_counts) (z4 : J kx_now_acts_sounds = I kx_now_acts_sounds) (z5 : J kx_now_acts_swaps = I kx_now_acts_swaps) (hc : aK I o m ac) : aK J o m ac := by
  unfold aK at *
  rw [z1, z2, z3, z4, z5]; exact hc
theorem cH_cong {J : Nat → Nat → Int32} {E0 : Nat} (z1 : J kx_now_swaps = I kx_now_swaps) (z2 : J kx_now_swaps_rows = I kx_now_swaps_rows) (hc : cH I E0 E h) : cH J E0 E h := by
  unfold cH at *
  rw [z1, z2]; exact hc
/-- behind an act -/
theorem RR_act {J K : Nat → Nat → Int32} {N' : Nat} {sd' : Nat → Bool} {e1' e2' pr' fm' : Nat → Nat} {l' : List Nat} {E' : Nat} {h' : Nat → Nat → Nat} {o' m' : Nat} {ac' : Nat → Ac} {rr' : Nat → Nat → Int32} (hs : SP I S T N sd e1 e2 pr fm l E h o m ac rr mn cb ib) (ht : TP I) (hi : IM I S T) (fJ : kaf J I) (fK : maf K J) (q : kQ J S N' sd' e1' e2' pr' fm' l') (hc : cH J (e0 m' ac' E') E' h') (ha : aK J o' m' ac') (hm : mC K S N' sd' e1' e2' pr' fm' l') (hh : mH (K mx_now) E' h') (hM : aM K m' rr') (hx : aX N' e1' e2' fm' h' E' m' ac' rr') (hE : E' ≤ 24 * (T + 1)) : RR K (T + 1) := by
  have zl : ∀ c, c < mx → K c = J c := fun c hc => maf_lt fK hc
  have zz : ∀ c, (¬ kac c ∧ ¬ mscr c ∧ c ≠ mx_now ∧ c ≠ mx_past) → K c = I c := fun c h => (fK.1 c h.2.1 h.2.2.1 h.2.2.2).trans (fJ c h.1)
  have zm : ∀ k, mkf k → k ≠ 1 → k ≠ 41 → K mx k = I mx k := fun k h1 h2 h3 => (fK.2 k h1 h2 h3).trans (by rw [kaf_ge fJ (Nat.le_refl _)])
  obtain ⟨y1, y2, y3, y4, y5, y6, y7, y8, y9, ⟨v1, v2, v3, v4, v5⟩, y11⟩ := hs
  refine ⟨S, ⟨N', sd', e1', e2', pr', fm', l', E', h', o', m', ac', rr', mn, cb, ib, ⟨?_, hm, ?_, hh, ?_, hM, hx, hE, ?_, ?_, ?_⟩, ?_⟩, ?_, ?_⟩
  · exact kC_cong (zl _ (by decide)) (zl _ (by decide)) (zl _ (by decide)) (zl _ (by decide)) (zl _ (by decide)) (zl _ (by decide)) q.1
  · exact cH_cong (zl _ (by decide)) (zl _ (by decide)) hc
  · exact aK_cong (zl _ (by decide)) (zl _ (by decide)) (zl _ (by decide)) (zl _ (by decide)) (zl _ (by decide)) ha
  · rw [zz kx_now (by unfold kac knc mscr; decide)]; exact y9
  · unfold nR
    rw [zz kx_now (by unfold kac knc mscr; decide), zz mx_notedCable (by unfold kac knc mscr; decide), zz mx_notedIn (by unfold kac knc mscr; decide), zm 43 (by unfold mkf; decide) (by decide) (by decide)]
    exact ⟨v1, v2, v3, v4, v5⟩
  · unfold rfE
    rw [zz kx_now_refused (by unfold kac knc mscr; decide), zz mx_status (by unfold kac knc mscr; decide)]
    exact y11
  · exact kN_cong (fun c hc => zl c (by unfold knc at hc; rcases hc with e | e | e | e | e | e | e | e <;> subst e <;> decide)) q.2
  · have z := zz kx (by unfold kac knc mscr; decide)
    exact TP_fr (by rw [z]) (by rw [z]) (zm 17 (by unfold mkf; decide) (by decide) (by decide)) (zm 8 (by unfold mkf; decide) (by decide) (by decide)) (zz _ (by unfold kac knc mscr; decide)) (zz _ (by unfold kac knc mscr; decide)) ht
  · have z := zz kx (by unfold kac knc mscr; decide)
    refine IM_fr (Nat.le_succ T) (fun c hc => ?_) (by rw [z]) (zm 2 (by unfold mkf; decide) (by decide) (by decide)) (zm 52 (by unfold mkf; decide) (by decide) (by decide)) (zm 53 (by unfold mkf; decide) (by decide) (by decide)) (zm 54 (by unfold mkf; decide) (by decide) (by decide)) hi
    unfold ic at hc
    rcases hc with e | e | e | e | e | e | e | e | e | e | e | e | e | e | e | e | e | e | e | e <;> subst e <;> exact zz _ (by unfold kac knc mscr; decide)
theorem RR_T {T' : Nat} (hT : T ≤ T') (g : RR I T) : RR I T' := RR_q hT kfr_refl mgr_refl g
/-- a call that is refused -/
theorem RR_rf {K : Nat → Nat → Int32} {T' : Nat} (hT : T ≤ T') (g : RR I T) (fK : ∀ c, c ≠ kx_now_refused → c ≠ mx_status → c ≠ mx → K c = I c) (fm : ∀ k, k ≠ 1 → K mx k = I mx k) (hr : rfE K) : RR K T' := by
  obtain ⟨S, ⟨N, sd, e1, e2, pr, fm', l, E, h, o, m, ac, rr, mn, cb, ib, hs, hn⟩, ht, hi⟩ := g
  have zz : ∀ c, (c ≠ kx_now_refused ∧ c ≠ mx_status ∧ c ≠ mx) → K c = I c := fun c h => fK c h.1 h.2.1 h.2.2
  have kx' := zz kx (by decide)
  refine ⟨S, ⟨N, sd, e1, e2, pr, fm', l, E, h, o, m, ac, rr, mn, cb, ib, SP_T hT (SP_cong (I := I) ?_ hr hs), kN_cong (fun c hc => ?_) hn⟩, TP_fr (by rw [kx']) (by rw [kx']) (fm 17 (by decide)) (fm 8 (by decide)) (zz _ (by decide)) (zz _ (by decide)) ht, IM_fr hT (fun c hc => ?_) (by rw [kx']) (fm 2 (by decide)) (fm 52 (by decide)) (fm 53 (by decide)) (fm 54 (by decide)) hi⟩
  · unfold ceq
    rw [zz kx_now (by decide), zz kx_now_cables (by decide), zz kx_now_cables_first (by decide), zz kx_now_cables_second (by decide), zz kx_now_cables_price (by decide), zz kx_now_cables_firm (by decide), zz kx_now_cables_order (by decide), zz kx_now_swaps (by decide), zz kx_now_swaps_rows (by decide), zz kx_now_acts (by decide), zz kx_now_acts_prices (by decide), zz kx_now_acts_counts (by decide), zz kx_now_acts_sounds (by decide), zz kx_now_acts_swaps (by decide), zz mx_now (by decide), zz mx_past (by decide), zz mx_notedCable (by decide), zz mx_notedIn (by decide)]
    exact ⟨fun _ _ _ => rfl, fun _ _ => rfl, fun _ _ => rfl, fun _ _ => rfl, fun _ _ => rfl, fun _ _ => rfl, fun _ _ => rfl, rfl, fun _ _ => rfl, rfl, rfl, fun _ _ => rfl, fun _ _ => rfl, fun _ _ => rfl, fun _ _ => rfl, fun _ _ => rfl, fun _ _ => rfl, fun _ _ => rfl, fun _ _ => rfl, fm 2 (by decide), fm 41 (by decide), fm 43 (by decide)⟩
  · unfold knc at hc
    rcases hc with e | e | e | e | e | e | e | e <;> subst e <;> exact zz _ (by decide)
  · unfold ic at hc
    rcases hc with e | e | e | e | e | e | e | e | e | e | e | e | e | e | e | e | e | e | e | e <;> subst e <;> exact zz _ (by decide)
theorem ref_ok {i : Nat} (hi : i = 1 ∨ i = 2) (g : RR I T) : RR (ab_up (ab_up (ab_up I kx_now_refused i (I kx_now_refused i + 1)) mx 1 0) mx_status i ((ab_up I kx_now_refused i (I kx_now_refused i + 1)) mx_status i + 1)) (T + 1) := by
  have hr : rfE I := by
    obtain ⟨S, ⟨N, sd, e1, e2, pr, fm', l, E, h, o, m, ac, rr, mn, cb, ib, hs, hn⟩, ht, hi⟩ := g
    exact hs.2.2.2.2.2.2.2.2.2.2
  refine RR_rf (Nat.le_succ T) g (fun c h1 h2 h3 => by rw [ab_up_o h2, ab_up_o h3, ab_up_o h1]) (fun k hk => by rw [ab_up_o (by decide), ab_up_i, pk_un hk, ab_up_o (by decide)]) ?_
  obtain ⟨r0, r1, r2⟩ := hr
  have a : ∀ j, (ab_up (ab_up (ab_up I kx_now_refused i (I kx_now_refused i + 1)) mx 1 0) mx_status i ((ab_up I kx_now_refused i (I kx_now_refused i + 1)) mx_status i + 1)) kx_now_refused j = if j = i then I kx_now_refused i + 1 else I kx_now_refused j := fun j => by
    rw [ab_up_o (by decide), ab_up_o (by decide), ab_up_i]
    by_cases e : j = i
    · rw [if_pos e, e, pk_us]
    · rw [if_neg e, pk_un e]
  have b : ∀ j, (ab_up (ab_up (ab_up I kx_now_refused i (I kx_now_refused i + 1)) mx 1 0) mx_status i ((ab_up I kx_now_refused i (I kx_now_refused i + 1)) mx_status i + 1)) mx_status j = if j = i then I mx_status i + 1 else I mx_status j := fun j => by
    rw [ab_up_i]
    by_cases e : j = i
    · rw [if_pos e, e, pk_us, ab_up_o (by decide)]
    · rw [if_neg e, pk_un e, ab_up_o (by decide), ab_up_o (by decide)]
  unfold rfE
  rw [a, a, a, b, b, b]
  rcases hi with e | e <;> subst e
  · exact ⟨r0, by rw [if_pos rfl, if_pos rfl, r1], r2⟩
  · exact ⟨r0, r1, by rw [if_pos rfl, if_pos rfl, r2]⟩
theorem aNx_last {α : Type} {x : α} {f : Nat → α} (hm : m ≤ 40) : aNx m f x (min (m + 1) 40 - 1) = x := by
  unfold aNx
  by_cases e : m = 40
  · subst e; rfl
  · rw [if_neg e, Nat.min_eq_left (by omega)]; exact if_neg (by omega)
/-- an act is kept, on the class's side -/
theorem a_keep (hT : w.1.stackTraces = false) (hs : SP I S T N sd e1 e2 pr fm l E h o m ac rr mn cb ib) (hn : kN I S e1 e2 pr (kr e1 e2 (l.filter sd))) : ∃ J o', kaf J I ∧ kC J S N sd e1 e2 pr fm l ∧ kF J S pr (kr e1 e2 (l.filter sd)) ∧ aK J o' (min (m + 1) 40) (aNx m ac (ct N sd pr E)) ∧ cH J (e0 (min (m + 1) 40) (aNx m ac (ct N sd pr E)) E) E h ∧ E ≤ e0 (min (m + 1) 40) (aNx m ac (ct N sd pr E)) E + 936 ∧ aX N e1 e2 fm h E (min (m + 1) 40) (aNx m ac (ct N sd pr E)) (aNx m rr (I mx_now)) ∧ (∀ a, a + 1 = min (m + 1) 40 → (aNx m ac (ct N sd pr E) a).2.2.2 = E) ∧ (∀ E', e0 (min (m + 1) 40) (aNx m ac (ct N sd pr E)) E' = e0 (min (m + 1) 40) (aNx m ac (ct N sd pr E)) E) ∧ ab_U w (d + 2) mt_State_keepAct [.ref kx_now] I L n nc ns J := by
  obtain ⟨y1, y2, y3, y4, y5, y6, y7, y8, y9, y10, y11⟩ := hs
  obtain ⟨J, o', f, k1, k2⟩ := k_keepAct (d := d) (w := w) (n := n) (nc := nc) (ns := ns) (L := L) hT y1 y5 y3.1
  have hm40 := y5.2.2.2.1
  obtain ⟨x1, x2⟩ := aX_keep y7 hm40 (c := ct N sd pr E) (f := I mx_now) (aX_now y2 y4) rfl rfl
  have bn := aX_bnd x1
  have last : ∀ a, a + 1 = min (m + 1) 40 → (aNx m ac (ct N sd pr E) a).2.2.2 = E := fun a ha => by
    have : a = min (m + 1) 40 - 1 := by omega
    rw [this, aNx_last hm40]; rfl
  refine ⟨J, o', kaf_ak f, kC_cong (f _ (by decide) (by decide) (by decide) (by decide) (by decide)) (f _ (by decide) (by decide) (by decide) (by decide) (by decide)) (f _ (by decide) (by decide) (by decide) (by decide) (by decide)) (f _ (by decide) (by decide) (by decide) (by decide) (by decide)) (f _ (by decide) (by decide) (by decide) (by decide) (by decide)) (f _ (by decide) (by decide) (by decide) (by decide) (by decide)) y1, ?_, k1, cH_cong (f _ (by decide) (by decide) (by decide) (by decide) (by decide)) (f _ (by decide) (by decide) (by decide) (by decide) (by decide)) (cH_mono y3 x2 bn.1), ?_, x1, last, fun E' => ?_, k2⟩
  · unfold kF
    rw [f kx_forest (by decide) (by decide) (by decide) (by decide) (by decide), f kx_forest_order (by decide) (by decide) (by decide) (by decide) (by decide), f kx_forest_piece (by decide) (by decide) (by decide) (by decide) (by decide)]
    exact ⟨hn.1, hn.2.1, hn.2.2.1, hn.2.2.2.1, hn.2.2.2.2.1, hn.2.2.2.2.2.1⟩
  · have q := aX_low x1 (min (m + 1) 40 - 1) (by omega)
    rw [last (min (m + 1) 40 - 1) (by omega)] at q
    unfold e0
    rw [if_neg (by omega)]
    omega
  · unfold e0
    rw [if_neg (by omega), if_neg (by omega)]
/-- and on the model's -/
theorem b_keep (hT : w.1.stackTraces = false) {J : Nat → Nat → Int32} (fJ : kaf J I) (hs : SP I S T N sd e1 e2 pr fm l E h o m ac rr mn cb ib) : ∃ K, maf K J ∧ K mx 1 = 0 ∧ mC K S N sd e1 e2 pr fm l ∧ K mx_now = I mx_now ∧ aM K (min (m + 1) 40) (aNx m rr (I mx_now)) ∧ ab_U w d mt_M_keep [.ref mx] (ab_up J mx 1 0) L n nc ns K := by
  obtain ⟨y1, y2, y3, y4, y5, y6, y7, y8, y9, y10, y11⟩ := hs
  have zn : (ab_up J mx 1 0) mx_now = I mx_now := by rw [ab_up_o (by decide)]; exact kaf_ge fJ (by decide)
  have zm : ∀ k, k ≠ 1 → (ab_up J mx 1 0) mx k = I mx k := fun k hk => by rw [ab_up_i, pk_un hk, kaf_ge fJ (Nat.le_refl _)]
  have hM : aM (ab_up J mx 1 0) m rr := by
    refine ⟨by rw [zm 41 (by decide)]; exact y6.1, y6.2.1, fun a ha j hj => ?_⟩
    rw [ab_up_o (by decide), kaf_ge fJ (by decide)]
    exact y6.2.2 a ha j hj
  obtain ⟨K, f, k1, k2⟩ := z_keep (d := d) (w := w) (n := n) (nc := nc) (ns := ns) (L := L) hT hM
  have kn : K mx_now = I mx_now := by rw [f.1 _ (by decide) (by decide)]; exact zn
  rw [zn] at k1
  refine ⟨K, maf_trans (maf_ak f) maf_c, by rw [f.2 1 (by decide), ab_up_i, pk_us], ?_, kn, k1, k2⟩
  unfold mC nm_pre at *
  rw [kn, f.2 2 (by decide), zm 2 (by decide)]; exact y2
theorem v_pr (u : Int32) : (∃ p, 1 ≤ p ∧ p ≤ 999 ∧ u = nI p ∧ ¬ u < 1 ∧ ¬ 999 < u) ∨ u < 1 ∨ (¬ u < 1 ∧ 999 < u) := by
  have one : (1 : Int32).toInt = 1 := by decide
  have top : (999 : Int32).toInt = 999 := by decide
  by_cases h1 : u < 1
  · exact Or.inr (Or.inl h1)
  · by_cases h2 : 999 < u
    · exact Or.inr (Or.inr ⟨h1, h2⟩)
    · refine Or.inl ⟨u.toInt.toNat, ?_, ?_, ?_, h1, h2⟩
      · rw [Int32.lt_iff_toInt_lt, one] at h1; omega
      · rw [Int32.lt_iff_toInt_lt, top] at h2; omega
      · rw [Int32.lt_iff_toInt_lt, one] at h1
        rw [Int32.lt_iff_toInt_lt, top] at h2
        apply Int32.toInt_inj.mp
        rw [nI_toInt (by omega)]
        omega
end AC2
