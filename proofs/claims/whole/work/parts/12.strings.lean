/-! String constants: the text j (0 to 7) has the id 64 j + 32, its bytes 64 j + 33 -/
theorem ab_sid (j : Nat) : ab_cd (64 * j + 32) = 32 := by unfold ab_cd; omega
theorem ab_vid (j : Nat) : ab_cd (64 * j + 33) = 33 := by unfold ab_cd; omega
theorem ab_sbl {j : Nat} (h : j < 8) : ab_bl (64 * j + 32) = 0 := by unfold ab_bl; omega
theorem ab_vbl {j : Nat} (h : j < 8) : ab_bl (64 * j + 33) = 0 := by unfold ab_bl; omega
section ABT
variable {w : ab_Wd} {d : Nat} {me me2 : ab_Me} {pc : Nat} {ls st : List Value} {M M2 : ab_M} {res : ab_Re}
theorem ab_ldcS {idx j : Nat} {tx : String} (hd : decode (ab_bc me) pc = .ok (.ldc idx, 2)) (hj : j < 8) (hq : (me.1.cls, idx, tx, j) ∈ ab_strs) (kk : ab_E w d me (pc + 2) ls (.ref (64 * j + 32) :: st) M res) : ab_E w d me pc ls st M res := by
  intro p e R s m args below meth c C n0 dom0 ad0 cA0 c0 s0 ad cA dom H locs lsA cells slots At
  have C1 := C
  obtain ⟨hx, hb, hml, -, hown, hts, hlk, hnm, htb, hN, hEn, hFr, hLo, hTr⟩ := C1
  obtain ⟨a1, a2, a3, a4, a5, a6, a7, a8, a9, a10, a11⟩ := At
  refine va_ldcS hx hb hown (hEn.2.2.2.2.2.2.1 _ hq) hd ?_
  have e1 : w.2.2.2.2.2.2.1 j = ad (64 * j + 32) := (a1.2.2.2.2.1 j hj).symm
  show W p w.1 e R s m args below meth c H locs cells slots _ (F0 m (pc + 2) lsA (.ref (w.2.2.2.2.2.2.1 j) :: st.map (ab_v ad)))
  rw [e1]
  exact kk p e R s m args below meth c C n0 dom0 ad0 cA0 c0 s0 ad cA dom H locs lsA cells slots ⟨a1, a2, a3, a4, List.forall_mem_cons.mpr ⟨⟨Or.inr (by rw [ab_sid]; exact Nat.le_refl _), by rw [ab_sbl hj]; exact Nat.zero_le _⟩, a5⟩, a6, a7, a8, a9, a10, a11⟩
theorem ab_sgetV {idx j : Nat} (hd : decode (ab_bc me) pc = .ok (.getfield idx, 3)) (hj : j < 8) (hw : Cond.fieldLink me.1.cls idx "java/lang/String" "value" "[B" ∈ ab_T) (kk : ab_E w d me (pc + 3) ls (.ref (64 * j + 33) :: st) M res) : ab_E w d me pc ls (.ref (64 * j + 32) :: st) M res := by
  intro p e R s m args below meth c C n0 dom0 ad0 cA0 c0 s0 ad cA dom H locs lsA cells slots At
  have C1 := C
  obtain ⟨hx, hb, hml, -, hown, hts, hlk, hnm, htb, hN, hEn, hFr, hLo, hTr⟩ := C1
  obtain ⟨a1, a2, a3, a4, a5, a6, a7, a8, a9, a10, a11⟩ := At
  have e1 : ad (64 * j + 32) = w.2.2.2.2.2.2.1 j := a1.2.2.2.2.1 j hj
  have e2 : w.2.2.2.2.2.2.2 j = ad (64 * j + 33) := (a1.2.2.2.2.2.1 j hj).symm
  show W p w.1 e R s m args below meth c H locs cells slots _ (F0 m pc lsA (.ref (ad (64 * j + 32)) :: st.map (ab_v ad)))
  rw [e1]
  refine vk_getf hx hb (hEn.2.2.2.2.2.2.2.1.1 j hj).2.2.1 a2 hown (hts _ hw) (fun _ h => h) hd ?_
  rw [e2]
  exact kk p e R s m args below meth c C n0 dom0 ad0 cA0 c0 s0 ad cA dom H locs lsA cells slots ⟨a1, a2, a3, a4, List.forall_mem_cons.mpr ⟨⟨Or.inr (by rw [ab_vid]; decide), by rw [ab_vbl hj]; exact Nat.zero_le _⟩, (List.forall_mem_cons.mp a5).2⟩, a6, a7, a8, a9, a10, a11⟩
theorem ab_sgetC {idx j : Nat} (hd : decode (ab_bc me) pc = .ok (.getfield idx, 3)) (hj : j < 8) (hw : Cond.fieldLink me.1.cls idx "java/lang/String" "coder" "B" ∈ ab_T) (kk : ab_E w d me (pc + 3) ls (.int 0 :: st) M res) : ab_E w d me pc ls (.ref (64 * j + 32) :: st) M res := by
  intro p e R s m args below meth c C n0 dom0 ad0 cA0 c0 s0 ad cA dom H locs lsA cells slots At
  have C1 := C
  obtain ⟨hx, hb, hml, -, hown, hts, hlk, hnm, htb, hN, hEn, hFr, hLo, hTr⟩ := C1
  obtain ⟨a1, a2, a3, a4, a5, a6, a7, a8, a9, a10, a11⟩ := At
  have e1 : ad (64 * j + 32) = w.2.2.2.2.2.2.1 j := a1.2.2.2.2.1 j hj
  show W p w.1 e R s m args below meth c H locs cells slots _ (F0 m pc lsA (.ref (ad (64 * j + 32)) :: st.map (ab_v ad)))
  rw [e1]
  refine vk_getf hx hb (hEn.2.2.2.2.2.2.2.1.1 j hj).2.1 a2 hown (hts _ hw) (fun _ h => h) hd ?_
  exact kk p e R s m args below meth c C n0 dom0 ad0 cA0 c0 s0 ad cA dom H locs lsA cells slots ⟨a1, a2, a3, a4, List.forall_mem_cons.mpr ⟨trivial, (List.forall_mem_cons.mp a5).2⟩, a6, a7, a8, a9, a10, a11⟩
theorem ab_compact {idx : Nat} (hd : decode (ab_bc me) pc = .ok (.getstatic idx, 3)) (hw : Cond.fieldLink me.1.cls idx "java/lang/String" "COMPACT_STRINGS" "Z" ∈ ab_T) (kk : ab_E w d me (pc + 3) ls (.int 1 :: st) M res) : ab_E w d me pc ls st M res := by
  intro p e R s m args below meth c C n0 dom0 ad0 cA0 c0 s0 ad cA dom H locs lsA cells slots At
  have C1 := C
  obtain ⟨hx, hb, hml, -, hown, hts, hlk, hnm, htb, hN, hEn, hFr, hLo, hTr⟩ := C1
  obtain ⟨a1, a2, a3, a4, a5, a6, a7, a8, a9, a10, a11⟩ := At
  refine va_gets hx hb hEn.2.2.2.2.2.2.2.2.1 a2 hown (hts _ hw) (fun _ h => h) hd ?_
  exact kk p e R s m args below meth c C n0 dom0 ad0 cA0 c0 s0 ad cA dom H locs lsA cells slots ⟨a1, a2, a3, a4, List.forall_mem_cons.mpr ⟨trivial, a5⟩, a6, a7, a8, a9, a10, a11⟩
theorem ab_sblen {j : Nat} {v : Int32} (hd : decode (ab_bc me) pc = .ok (.arraylength, 1)) (hj : j < 8) (hv : Int32.ofNat (ab_slen.getD j 0) = v) (kk : ab_E w d me (pc + 1) ls (.int v :: st) M res) : ab_E w d me pc ls (.ref (64 * j + 33) :: st) M res := by
  intro p e R s m args below meth c C n0 dom0 ad0 cA0 c0 s0 ad cA dom H locs lsA cells slots At
  have C1 := C
  obtain ⟨hx, hb, hml, -, hown, hts, hlk, hnm, htb, hN, hEn, hFr, hLo, hTr⟩ := C1
  obtain ⟨a1, a2, a3, a4, a5, a6, a7, a8, a9, a10, a11⟩ := At
  have e1 : ad (64 * j + 33) = w.2.2.2.2.2.2.2 j := a1.2.2.2.2.2.1 j hj
  show W p w.1 e R s m args below meth c H locs cells slots _ (F0 m pc lsA (.ref (ad (64 * j + 33)) :: st.map (ab_v ad)))
  rw [e1]
  refine va_tlen hx hb (hEn.2.2.2.2.2.2.2.1.1 j hj).2.2.2 a2 hv hd ?_
  exact kk p e R s m args below meth c C n0 dom0 ad0 cA0 c0 s0 ad cA dom H locs lsA cells slots ⟨a1, a2, a3, a4, List.forall_mem_cons.mpr ⟨trivial, (List.forall_mem_cons.mp a5).2⟩, a6, a7, a8, a9, a10, a11⟩
theorem ab_sbald {j : Nat} {x : Int32} (hd : decode (ab_bc me) pc = .ok (.baload, 1)) (hj : j < 8) (hin : vp_in x (ab_slen.getD j 0)) (kk : ab_E w d me (pc + 1) ls (.int ((ab_sbyt.getD j []).getD x.toNatClampNeg 0) :: st) M res) : ab_E w d me pc ls (.int x :: .ref (64 * j + 33) :: st) M res := by
  intro p e R s m args below meth c C n0 dom0 ad0 cA0 c0 s0 ad cA dom H locs lsA cells slots At
  have C1 := C
  obtain ⟨hx, hb, hml, -, hown, hts, hlk, hnm, htb, hN, hEn, hFr, hLo, hTr⟩ := C1
  obtain ⟨a1, a2, a3, a4, a5, a6, a7, a8, a9, a10, a11⟩ := At
  have e1 : ad (64 * j + 33) = w.2.2.2.2.2.2.2 j := a1.2.2.2.2.2.1 j hj
  show W p w.1 e R s m args below meth c H locs cells slots _ (F0 m pc lsA (.int x :: .ref (ad (64 * j + 33)) :: st.map (ab_v ad)))
  rw [e1]
  refine va_tb hx hb (hEn.2.2.2.2.2.2.2.1.1 j hj).2.2.2 a2 hin rfl hd ?_
  exact kk p e R s m args below meth c C n0 dom0 ad0 cA0 c0 s0 ad cA dom H locs lsA cells slots ⟨a1, a2, a3, a4, List.forall_mem_cons.mpr ⟨trivial, (List.forall_mem_cons.mp (List.forall_mem_cons.mp a5).2).2⟩, a6, a7, a8, a9, a10, a11⟩
/-- a call of a String's own method: it returns -/
theorem ab_callT {idx j : Nat} {as : List Value} {rv : Option Value} (hd : decode (ab_bc me) pc = .ok (.invokevirtual idx, 3)) (hj : j < 8) (hce : ab_Ce me2 as.length) (h1 : Cond.methodLink me.1.cls idx me2.1 ∈ ab_T) (h2 : Cond.instanceMethod me2.1 ∈ ab_T) (h3 : Cond.selects me2.1.cls me2.1 me2.1 ∈ ab_T) (hcl : me2.1.cls = "java/lang/String") (hst : (st.map fun v => v.category).sum ≤ 8) (hM : ab_C w d me2 (.ref (64 * j + 32) :: as) M (.inl rv, M2))
    (g1 : M.2.2.2.2.1 ≤ M2.2.2.2.2.1) (g2 : M.2.2.2.2.2 ≤ M2.2.2.2.2.2) (g3 : M2.2.2.2.2.1 ≤ res.2.2.2.2.2.1) (g4 : M2.2.2.2.2.2 ≤ res.2.2.2.2.2.2) (hrv : ∀ j, rv ≠ some (.ref j)) (hk : ∀ i, ab_bl i ≤ M.2.2.2.1 → M2.2.2.1 i = M.2.2.1 i) (kk : ab_E w (d + 1) me (pc + 3) ls (rv.toList ++ st) (ab_bk M M2) res) : ab_E w (d + 1) me pc ls (as.reverse ++ .ref (64 * j + 32) :: st) M res := by
  intro p e R s m args below meth c C n0 dom0 ad0 cA0 c0 s0 ad cA dom H locs lsA cells slots At
  have C1 := C
  obtain ⟨hx, hb, hml, -, hown, hts, hlk, hnm, htb, hN, hEn, hFr, hLo, hTr⟩ := C1
  have A1 := At
  obtain ⟨a1, a2, a3, a4, a5, a6, a7, a8, a9, a10, a11⟩ := A1
  obtain ⟨k1, k2, k3, k4⟩ := hce
  have e1 : ad (64 * j + 32) = w.2.2.2.2.2.2.1 j := a1.2.2.2.2.1 j hj
  have oas : ∀ v ∈ as, ab_ok dom M.2.2.2.1 v := fun v hv => a5 v (List.mem_append_left _ (List.mem_reverse.mpr hv))
  have ob : ab_ok dom M.2.2.2.1 (.ref (64 * j + 32)) := a5 _ (List.mem_append_right _ List.mem_cons_self)
  have hrec := vk_recv (H := H) (locs := locs) hEn.2.2.2.2.2.2.2.1 hj a2
  have hcw : CallW R s args me.1.cls me2.1.cls idx me2.1 (ab_bc me2) (ab_ml me2) me2.2.2.2 (ab_wsm me2) (ab_rm d (M2.2.2.2.2.1 - M.2.2.2.2.1) (M2.2.2.2.2.2 - M.2.2.2.2.2)) (M2.2.2.2.2.1 - M.2.2.2.2.1) (M2.2.2.2.2.2 - M.2.2.2.2.2) as.length :=
    ⟨callB_of as.length hts (ab_good me2 k1) rfl rfl rfl (hts _ k2) (hts _ h1) k3 ⟨by show d + 1 ≤ _; omega, by show 8 + (ab_ml me2 + 11) + 64 * d ≤ _; omega⟩, hts _ h2, hts _ h3⟩
  have hpre : PreV s H me2.1.cls (ad (64 * j + 32)) (ab_Pc w (.ref (64 * j + 32) :: as) M ad cA dom) (as.map (ab_v ad)) := by
    refine ⟨ab_Pc_blind, ?_, fun U hU hW => ⟨rfl, ?_, ab_Env_call hW hN (by rw [hU]; exact a2) hEn, ab_Rel_moved hW.alike hU a1, List.forall_mem_cons.mpr ⟨ob, oas⟩⟩⟩
    · rw [hcl, e1]; exact hrec
    · rw [hU]; exact Nat.le_trans hN a2.1
  have hrun := vx_runV (S := ⟨hx, hb, hml, hown, hts⟩) (e := e) (below := below) (meth := meth) (locs := locs) (cells := cells) (slots := slots) (g := F0 m pc lsA ((as.reverse ++ .ref (64 * j + 32) :: st).map (ab_v ad))) (rest := st.map (ab_v ad)) (hM ad cA dom) hcw hpre rfl (by rw [List.length_map]) a3.1 (by show (as.reverse ++ .ref (64 * j + 32) :: st).map (ab_v ad) = (as.map (ab_v ad)).reverse ++ .ref (ad (64 * j + 32)) :: st.map (ab_v ad); rw [List.map_append, List.map_reverse]; rfl) (by show 2 * 0 + _ ≤ 8; rw [ab_sum_cat]; omega) hd ⟨by show cells + (M2.2.2.2.2.1 - _) ≤ _; omega, by show slots + (M2.2.2.2.2.2 - _) ≤ _; omega⟩
  refine ab_after (me := me) (ls := ls) (st := st) (M2 := M2) (res := res) ⟨a1, a2, a3, a4, fun v hv => a5 v (List.mem_append_right _ (List.mem_cons_of_mem _ hv)), a6, a7, a8, a9, a10, a11⟩ rfl hrun (by show M2.2.2.2.2.1 = _ + (M2.2.2.2.2.1 - _); omega) (by show M2.2.2.2.2.2 = _ + (M2.2.2.2.2.2 - _); omega) hrv hk (fun ad' cA' H1 locs1 At' => ?_)
  exact kk p e R s m args below meth c C n0 dom0 ad0 cA0 c0 s0 ad' cA' dom H1 locs1 lsA _ _ At'
end ABT
/-! constructors: calls that keep what they made -/
section ABJ
variable {w : ab_Wd} {d : Nat} {me me2 : ab_Me} {pc : Nat} {ls st : List Value} {M M2 : ab_M} {res : ab_Re}
theorem ab_callI {idx b : Nat} {as : List Value} (hd : decode (ab_bc me) pc = .ok (.invokespecial idx, 3)) (hce : ab_Ce me2 as.length) (h1 : Cond.methodLink me.1.cls idx me2.1 ∈ ab_T ∨ ∃ host, Cond.methodLinkNest me.1.cls idx me2.1 host ∈ lw_tbl) (h2 : Cond.instanceMethod me2.1 ∈ ab_T) (hin : me2.1.name = "<init>") (hrt : me2.2.2.2 = none) (hst : (st.map fun v => v.category).sum ≤ 8) (hM : ab_C w d me2 (.ref b :: as) M (.inl none, M2))
    (g1 : M.2.2.2.2.1 ≤ M2.2.2.2.2.1) (g2 : M.2.2.2.2.2 ≤ M2.2.2.2.2.2) (g3 : M2.2.2.2.2.1 ≤ res.2.2.2.2.2.1) (g4 : M2.2.2.2.2.2 ≤ res.2.2.2.2.2.2) (hn9 : M.2.2.2.1 ≤ M2.2.2.2.1) (kk : ab_E w (d + 1) me (pc + 3) ls st M2 res) : ab_E w (d + 1) me pc ls (as.reverse ++ .ref b :: st) M res := by
  intro p e R s m args below meth c C n0 dom0 ad0 cA0 c0 s0 ad cA dom H locs lsA cells slots At
  have C1 := C
  obtain ⟨hx, hb, hml, -, hown, hts, hlk, hnm, htb, hN, hEn, hFr, hLo, hTr⟩ := C1
  obtain ⟨a1, a2, a3, a4, a5, a6, a7, a8, a9, a10, a11⟩ := At
  obtain ⟨k1, k2, k3, k4⟩ := hce
  have oas : ∀ v ∈ as, ab_ok dom M.2.2.2.1 v := fun v hv => a5 v (List.mem_append_left _ (List.mem_reverse.mpr hv))
  have ob : ab_ok dom M.2.2.2.1 (.ref b) := a5 _ (List.mem_append_right _ List.mem_cons_self)
  have ost : ∀ v ∈ st, ab_ok dom M.2.2.2.1 v := fun v hv => a5 v (List.mem_append_right _ (List.mem_cons_of_mem _ hv))
  have hpre : PreS s H (ab_Pc w (.ref b :: as) M ad cA dom) (.ref (ad b) :: as.map (ab_v ad)) := ab_preS (as := .ref b :: as) C a1 a2 (List.forall_mem_cons.mpr ⟨ob, oas⟩)
  have hroom : (ab_rm d (M2.2.2.2.2.1 - M.2.2.2.2.1) (M2.2.2.2.2.2 - M.2.2.2.2.2)).frames + 1 ≤ R.frames ∧ 8 + (ab_ml me2 + 11) + (ab_rm d (M2.2.2.2.2.1 - M.2.2.2.2.1) (M2.2.2.2.2.2 - M.2.2.2.2.2)).locals ≤ R.locals := ⟨by show d + 1 ≤ _; omega, by show 8 + (ab_ml me2 + 11) + 64 * d ≤ _; omega⟩
  have hstk : (as.reverse ++ .ref b :: st).map (ab_v ad) = (as.map (ab_v ad)).reverse ++ .ref (ad b) :: st.map (ab_v ad) := by rw [List.map_append, List.map_reverse]; rfl
  have hroom2 : 2 * (F0 m pc lsA ((as.reverse ++ .ref b :: st).map (ab_v ad))).monitorRoom + ((st.map (ab_v ad)).map fun v => v.category).sum ≤ 8 := by show 2 * 0 + _ ≤ 8; rw [ab_sum_cat]; omega
  have hfit : cells + (M2.2.2.2.2.1 - M.2.2.2.2.1) ≤ R.cells ∧ slots + (M2.2.2.2.2.2 - M.2.2.2.2.2) ≤ R.slots := ⟨by omega, by omega⟩
  have hM9 := hM ad cA dom
  have hwsm : ab_wsm me2 = Cond.code me2.1 (ab_bc me2) (ab_ml me2) none :: ab_T := by unfold ab_wsm; rw [hrt]
  have hrun : vx_Run p w.1 e R s m args below meth c H locs cells slots (M2.2.2.2.2.1 - M.2.2.2.2.1) (M2.2.2.2.2.2 - M.2.2.2.2.2) (F0 m pc lsA ((as.reverse ++ .ref b :: st).map (ab_v ad))) (st.map (ab_v ad)) (ab_Qc w (.inl none, M2) M.2.2.2.1 dom ad cA (Value.ref (ad b) :: as.map (ab_v ad)).toArray) (ab_XC w (.inl none, M2) M.2.2.2.1 dom ad cA) (ab_A w) := by
    rcases h1 with h | ⟨host, h⟩
    · have hcw := callB_of (R := R) as.length hts (ab_good me2 k1) hwsm (rm := ab_rm d (M2.2.2.2.2.1 - M.2.2.2.2.1) (M2.2.2.2.2.2 - M.2.2.2.2.2)) rfl rfl (hts _ k2) (hts _ h) k3 hroom
      exact vx_runI (S := ⟨hx, hb, hml, hown, hts⟩) hM9 ⟨hcw, hin, hts _ h2⟩ hpre rfl (by rw [List.length_map]) a3.1 hstk hroom2 hd hfit
    · have hcw := va_cnB (R := R) as.length hts (ab_good me2 k1) hwsm (rm := ab_rm d (M2.2.2.2.2.1 - M.2.2.2.2.1) (M2.2.2.2.2.2 - M.2.2.2.2.2)) rfl rfl (hEn.2.2.2.2.2.1 _ h rfl) (hts _ k2) k3 hroom
      exact vx_runIN (S := ⟨hx, hb, hml, hown, hts⟩) hM9 ⟨hcw, hin, hts _ h2⟩ hpre rfl (by rw [List.length_map]) a3.1 hstk hroom2 hd hfit
  intro T hT X
  rcases hrun T hT X with ⟨v, st₀, t, T', L, h0, X', hL, e1, e2, ⟨⟨rv', ad', cA', dom', r1, r2, r3, r4, r5⟩, hF⟩, go⟩ | ⟨q, st₀, t, T', L, E, ce, h0, X', hL, e1, e2, ⟨⟨ad', cA', dom', r1, -⟩, -⟩, -⟩
  · cases r1
    cases r2
    obtain ⟨-, -, k3⟩ := vx_keep (A1 := ab_A w) (free := ab_A w) h0 e1 a2 (fun q _ h => h) (fun q h => h) hL hF
    have hvm : t.vm.Alike s.vm := by rw [← e2]; exact X'.warmed.alike.symm
    have r4' : ab_Rel w ad' cA' dom' M2 s T'.heap := ab_Rel_moved hvm e1 r4
    have hst9 : st.map (ab_v ad') = st.map (ab_v ad) := List.map_congr_left fun v hv => ab_v_ext r3 (ost v hv)
    have hup : ∀ v, ab_ok dom M.2.2.2.1 v → ab_ok dom' M2.2.2.2.1 v := fun v h => ab_ok_mono r3.1 hn9 h
    have hW := kk p e R s m args below meth c C n0 dom0 ad0 cA0 c0 s0 ad' cA' dom' T'.heap (locs ++ L) lsA (cells + (M2.2.2.2.2.1 - M.2.2.2.2.1)) (slots + (M2.2.2.2.2.2 - M.2.2.2.2.2)) ⟨r4', k3, ⟨a3.1, a3.2.1, a3.2.2.1, fun i v hi hv => by rw [ab_v_ext r3 (a4 v (List.mem_of_getElem? hi))]; exact a3.2.2.2 i v hi hv⟩, fun v hv => hup v (a4 v hv), fun v hv => hup v (ost v hv), ⟨fun i hi => r3.1 i (a6.1 i hi), fun i hi => ⟨((r3.2 i (Nat.le_trans hi a7)).1).trans (a6.2 i hi).1, ((r3.2 i (Nat.le_trans hi a7)).2).trans (a6.2 i hi).2⟩⟩, Nat.le_trans a7 hn9, by omega, by omega, a10, a11⟩
    obtain ⟨t2, b1, b2⟩ := hW T' rfl X'
    rw [hst9] at b1
    exact ⟨t2, go t2 b1, b2⟩
  · cases r1
theorem ab_objInit {idx b : Nat} (hd : decode (ab_bc me) pc = .ok (.invokespecial idx, 3)) (h1 : Cond.methodLink me.1.cls idx Lib.objectInit ∈ ab_T) (h2 : Cond.instanceMethod Lib.objectInit ∈ ab_T) (h3 : Cond.code Lib.objectInit ⟨#[0xb1]⟩ 1 none ∈ ab_T) (hdp : 1 ≤ d) (hst : (st.map fun v => v.category).sum ≤ 16) (kk : ab_E w d me (pc + 3) ls st M res) : ab_E w d me pc ls (.ref b :: st) M res := by
  intro p e R s m args below meth c C n0 dom0 ad0 cA0 c0 s0 ad cA dom H locs lsA cells slots At
  have C1 := C
  obtain ⟨hx, hb, hml, -, hown, hts, hlk, hnm, htb, hN, hEn, hFr, hLo, hTr⟩ := C1
  obtain ⟨a1, a2, a3, a4, a5, a6, a7, a8, a9, a10, a11⟩ := At
  refine W.objInit hx hb hown (hts _ h1) (hts _ h2) (hts _ h3) rfl (a3.1.trans hml.symm) (a := ad b) (rest := st.map (ab_v ad)) rfl hd (by omega) (by show 2 * 0 + _ + 12 ≤ _; rw [ab_sum_cat]; omega) ?_
  exact kk p e R s m args below meth c C n0 dom0 ad0 cA0 c0 s0 ad cA dom H locs lsA cells slots ⟨a1, a2, a3, a4, (List.forall_mem_cons.mp a5).2, a6, a7, a8, a9, a10, a11⟩
/-- a String constant is stored into a String[] -/
theorem ab_astS {i n j : Nat} {x : Int32} (hd : decode (ab_bc me) pc = .ok (.aastore, 1)) (hi : ab_cd i = 20) (hl : ab_ln i = n) (hj : j < 8) (hin : vp_in x n) (kk : ab_E w d me (pc + 1) ls st (M.1, M.2.1, ab_upR M.2.2.1 i x.toNatClampNeg (.ref (64 * j + 32)), M.2.2.2) res) : ab_E w d me pc ls (.ref (64 * j + 32) :: .int x :: .ref i :: st) M res := by
  intro p e R s m args below meth c C n0 dom0 ad0 cA0 c0 s0 ad cA dom H locs lsA cells slots At
  have C1 := C
  obtain ⟨hx, hb, hml, -, hown, hts, hlk, hnm, htb, hN, hEn, hFr, hLo, hTr⟩ := C1
  obtain ⟨a1, a2, a3, a4, a5, a6, a7, a8, a9, a10, a11⟩ := At
  subst hl
  obtain ⟨o0, o1⟩ := List.forall_mem_cons.mp a5
  obtain ⟨o1, o3⟩ := List.forall_mem_cons.mp (List.forall_mem_cons.mp o1).2
  obtain ⟨q, hq⟩ := ab_in_dom o1 (by omega)
  have he := ab_ws_at (ad := ad) (cA := cA) (M := M) hq
  rw [ab_enc_a (by omega), ab_con_q hi] at he
  have hr := (a1.2.2.1 i (List.mem_of_getElem? hq)).2.resolve_left (by omega)
  have hty : ab_aty (ab_cd i) = .object "java/lang/String" := by rw [hi]; rfl
  rw [hty] at hr
  have hK1 := ab_K1 hEn.1 hr.2.2.1 hr.2.2.2
  have e1 : ad (64 * j + 32) = w.2.2.2.2.2.2.1 j := a1.2.2.2.2.1 j hj
  obtain ⟨cell, g1, g2, g3⟩ := vk_recv (H := H) (locs := locs) hEn.2.2.2.2.2.2.2.1 hj a2
  have hany : va_Any "java/lang/String" s H (ad (64 * j + 32)) := by
    obtain ⟨kC, hkC, -⟩ := Vm.findClass_spec g3
    refine ⟨cell, by rw [e1]; exact g1, g2, ⟨kC, hkC⟩, fun comp hcomp => ?_⟩
    cases Option.some.inj (g3.symm.trans hcomp)
    show s.vm.assignableAux (255 + 1) cell.cls cell.cls = true
    rw [Vm.assignableAux]
    simp only [beq_self_eq_true, Bool.true_or]
  refine va_astqM hx hb hK1 a1.1 a1.2.1 a2 q 0 he rfl hany hin hd (fun H1 locs1 hP hD hS => ?_)
  refine kk p e R s m args below meth c C n0 dom0 ad0 cA0 c0 s0 ad cA dom H1 locs1 lsA cells slots ⟨ab_Rel_set a1 hq ?_ (fun j hj => rfl) (fun j hj => rfl) (fun j hj => by simp [ab_upR, hj]) rfl (fun k9 => by
      simp only [ab_upR, if_true]
      split
      · exact o0
      · exact a1.2.2.2.1 i (List.mem_of_getElem? hq) k9) hP hD, hS, a3, a4, o3, a6, a7, a8, a9, a10, a11⟩
  rw [ab_enc_a (by omega), ab_con_q hi]
  congr 7
  funext k9
  unfold va_up ab_upR
  simp only [if_true]
  split <;> rfl
end ABJ
def ab_i2c16 (x : Int32) : Int32 := (x.toUInt32 % 65536).toInt32
/-! a reference (or null) of which nothing is known: it gets a new block's id -/
section ABO
variable {w : ab_Wd} {d : Nat} {me me2 : ab_Me} {pc : Nat} {ls st : List Value} {M M2 : ab_M} {res : ab_Re}
/-- a block is used up for an opaque reference -/
def ab_op (M : ab_M) : ab_M := (M.1, M.2.1, M.2.2.1, M.2.2.2.1 + 1, M.2.2.2.2.1, M.2.2.2.2.2)
theorem ab_At_op {R : Room} {s : State} {n0 : Nat} {dom0 : List Nat} {ad0 : Nat → Nat} {cA0 : Nat → ClassId} {c0 s0 : Nat} {ad : Nat → Nat} {cA : Nat → ClassId} {dom : List Nat} {H : Heap} {locs : List Loc} {lsA : Array Slot} {cells slots i q : Nat}
    (At : ab_At w me ls st M res R s n0 dom0 ad0 cA0 c0 s0 ad cA dom H locs lsA cells slots) (hi : ab_bl i = M.2.2.2.1 + 1) (hc : 32 ≤ ab_cd i) :
    ab_At w me ls (.ref i :: st) (ab_op M) res R s n0 dom0 ad0 cA0 c0 s0 (ab_upA ad i q) cA dom H locs lsA cells slots := by
  obtain ⟨a1, a2, a3, a4, a5, a6, a7, a8, a9, a10, a11⟩ := At
  obtain ⟨r1, r2, r3, r4, r5⟩ := a1
  have hws : ab_ws (ab_upA ad i q) cA dom (ab_op M) = ab_ws ad cA dom M := by
    unfold ab_ws
    apply List.map_congr_left
    intro j hj
    have hb := (r3 j hj).1
    rw [ab_upA_ne hi hb]
    congr 1
    unfold ab_enc
    split
    · congr 2
      apply List.map_congr_left
      intro k _
      unfold ab_fv ab_op
      simp only []
      rw [ab_v_upA hi (r4 j hj k)]
    · unfold ab_con ab_op
      simp only []
      have : (fun k => ab_q (ab_upA ad i q) (M.2.2.1 j k)) = fun k => ab_q ad (M.2.2.1 j k) := by funext k; exact ab_q_upA hi (r4 j hj k)
      rw [this]
  have hup : ∀ v, ab_ok dom M.2.2.2.1 v → ab_ok dom (M.2.2.2.1 + 1) v := fun v h => ab_ok_mono (fun _ h => h) (Nat.le_succ _) h
  refine ⟨⟨by rw [hws]; exact r1, by rw [hws]; exact r2, fun j hj => ⟨Nat.le_succ_of_le (r3 j hj).1, (r3 j hj).2⟩, fun j hj k => hup _ (r4 j hj k), ?_⟩, a2, ⟨a3.1, a3.2.1, a3.2.2.1, ?_⟩, fun v h => hup v (a4 v h), List.forall_mem_cons.mpr ⟨⟨Or.inr hc, Nat.le_of_eq hi⟩, fun v h => hup v (a5 v h)⟩, ⟨a6.1, fun j h => ?_⟩, Nat.le_succ_of_le a7, a8, a9, a10, a11⟩
  · have z : ∀ j, ab_bl j = 0 → ab_upA ad i q j = ad j := fun j h => ab_upA_ne hi (by omega)
    refine ⟨fun j hj => ?_, fun j hj => ?_, ?_⟩
    · rw [z _ (by unfold ab_bl; omega)]; exact r5.1 j hj
    · rw [z _ (by unfold ab_bl; omega)]; exact r5.2.1 j hj
    · rw [z _ (by unfold ab_bl; omega)]; exact r5.2.2
  · intro j v hj hv
    rw [ab_v_upA hi (a4 v (List.mem_of_getElem? hj))]
    exact a3.2.2.2 j v hj hv
  · rw [ab_upA_ne hi (Nat.le_trans h a7)]
    exact a6.2 j h
/-- the formatter: a reference, or null -/
theorem ab_getOp {idx i : Nat} (hi : ab_bl i = M.2.2.2.1 + 1) (hc : 32 ≤ ab_cd i) (hd : decode (ab_bc me) pc = .ok (.getstatic idx, 3)) (hw : Cond.fieldLink me.1.cls idx "jdk/internal/util/Preconditions" "SIOOBE_FORMATTER" "Ljava/util/function/BiFunction;" ∈ ab_T) (k1 : ab_E w d me (pc + 3) ls (.ref i :: st) (ab_op M) res) (k2 : ab_E w d me (pc + 3) ls (.null :: st) M res) : ab_E w d me pc ls st M res := by
  intro p e R s m args below meth c C n0 dom0 ad0 cA0 c0 s0 ad cA dom H locs lsA cells slots At
  have C1 := C
  obtain ⟨hx, hb, hml, -, hown, hts, hlk, hnm, htb, hN, hEn, hFr, hLo, hTr⟩ := C1
  have A1 := At
  obtain ⟨a1, a2, a3, a4, a5, a6, a7, a8, a9, a10, a11⟩ := A1
  rcases hEn.2.2.2.2.2.2.2.2.2.2.2 with hZ | ⟨t, hZ⟩
  · refine va_gets hx hb hZ a2 hown (hts _ hw) (fun _ h => h) hd ?_
    exact k2 p e R s m args below meth c C n0 dom0 ad0 cA0 c0 s0 ad cA dom H locs lsA cells slots ⟨a1, a2, a3, a4, List.forall_mem_cons.mpr ⟨trivial, a5⟩, a6, a7, a8, a9, a10, a11⟩
  · refine va_gets hx hb hZ a2 hown (hts _ hw) (fun _ h => h) hd ?_
    have hst := ab_st_new (ad := ad) (q := t) hi a5
    rw [← hst]
    exact k1 p e R s m args below meth c C n0 dom0 ad0 cA0 c0 s0 (ab_upA ad i t) cA dom H locs lsA cells slots (ab_At_op At hi hc)
end ABO
