/-! HANDLERS: the law's helpers catch what the class throws -/
section ABX
variable {w : ab_Wd} {d : Nat} {me me2 : ab_Me} {pc : Nat} {ls st : List Value} {M M2 : ab_M} {res : ab_Re}
/-- the handler of this method's table that takes E at pc -/
def ab_Ca (me : ab_Me) (pc : Nat) (E : String) (hpc : Nat) : Prop := ∃ (pre : List ExceptionTableEntry) (x : ExceptionTableEntry) (suf : List ExceptionTableEntry) (nm : String), tableOf (ab_hh me) = pre ++ x :: suf ∧ (∀ z ∈ pre, covers z pc = false ∨ (z.catchType ≠ 0 ∧ ∃ n2 : String, Cond.classLink me.1.cls z.catchType n2 ∈ ab_T ∧ (E, n2) ∈ ab_ncs)) ∧ covers x pc = true ∧ x.catchType ≠ 0 ∧ Cond.classLink me.1.cls x.catchType nm ∈ ab_T ∧ Cond.castable E nm ∈ lw_tbl ∧ x.handlerPc = hpc
/-- invokevirtual, it throws, and it is caught here -/
theorem ab_callVC {idx b i hpc : Nat} {as : List Value} {E : String} (hca : ab_Ca me pc E hpc) (hi : ab_bl i = M.2.2.2.1 + 1) (hic : 32 ≤ ab_cd i) (hd : decode (ab_bc me) pc = .ok (.invokevirtual idx, 3)) (hce : ab_Ce me2 as.length) (h1 : Cond.methodLink me.1.cls idx me2.1 ∈ ab_T) (h2 : Cond.instanceMethod me2.1 ∈ ab_T) (h3 : Cond.selects me2.1.cls me2.1 me2.1 ∈ ab_T) (hb9 : ab_cd b < 12) (hcl : ab_R (ab_cd b) = me2.1.cls) (hst : (st.map fun v => v.category).sum ≤ 8) (hM : ab_C w d me2 (.ref b :: as) M (.inr E, M2))
    (g1 : M.2.2.2.2.1 ≤ M2.2.2.2.2.1) (g2 : M.2.2.2.2.2 ≤ M2.2.2.2.2.2) (g3 : M2.2.2.2.2.1 ≤ res.2.2.2.2.2.1) (g4 : M2.2.2.2.2.2 ≤ res.2.2.2.2.2.2) (hk : ∀ i, ab_bl i ≤ M.2.2.2.1 → M2.2.2.1 i = M.2.2.1 i) (kk : ab_E w (d + 1) me hpc ls [.ref i] (ab_op (ab_bk M M2)) res) : ab_E w (d + 1) me pc ls (as.reverse ++ .ref b :: st) M res := by
  intro p e R s m args below meth c C n0 dom0 ad0 cA0 c0 s0 ad cA dom H locs lsA cells slots At
  have C1 := C
  obtain ⟨hx, hb, hml, -, hown, hts, hlk, hnm, htb, hN, hEn, hFr, hLo, hTr⟩ := C1
  have A1 := At
  obtain ⟨a1, a2, a3, a4, a5, a6, a7, a8, a9, a10, a11⟩ := A1
  have hrun := ab_runV (e := e) (below := below) (pc := pc) C At hd hM hce h1 h2 h3 hb9 hcl hst rfl rfl ⟨by show cells + (M2.2.2.2.2.1 - _) ≤ _; omega, by show slots + (M2.2.2.2.2.2 - _) ≤ _; omega⟩
  obtain ⟨pre, x, suf, nm, t1, t2, t3, t4, t5, t6, t7⟩ := hca
  intro T hT X
  rcases hrun T hT X with ⟨v, st₀, t, T', L, h0, X', hL, e1, e2, ⟨⟨rv', ad', cA', dom', r1, -⟩, -⟩, -⟩ | ⟨q, st₀, t, T', L, E', ce, h0, X', hL, e1, e2, ⟨⟨ad', cA', dom', r1, r3, r4⟩, hF⟩, hce9, hcv, hcl9, go⟩
  · cases r1
  · cases r1
    obtain ⟨-, -, k3⟩ := vx_keep (A1 := ab_A w) (free := ab_A w) h0 e1 a2 (fun q _ h => h) (fun q h => h) hL hF
    have hvm : t.vm.Alike s.vm := by rw [← e2]; exact X'.warmed.alike.symm
    have r4' : ab_Rel w ad' cA' dom' M2 s T'.heap := ab_Rel_moved hvm e1 r4
    have hR := ab_Rel_bk a1 r4' r3 hk
    have At' : ab_At w me ls [] (ab_bk M M2) res R s n0 dom0 ad0 cA0 c0 s0 ad' cA' dom T'.heap (locs ++ L) lsA (cells + (M2.2.2.2.2.1 - M.2.2.2.2.1)) (slots + (M2.2.2.2.2.2 - M.2.2.2.2.2)) :=
      ⟨hR, k3, ⟨a3.1, a3.2.1, a3.2.2.1, fun i v hi hv => by rw [ab_v_ext r3 (a4 v (List.mem_of_getElem? hi))]; exact a3.2.2.2 i v hi hv⟩, a4, fun v hv => (by cases hv), ⟨a6.1, fun i hi => ⟨((r3.2 i (Nat.le_trans hi a7)).1).trans (a6.2 i hi).1, ((r3.2 i (Nat.le_trans hi a7)).2).trans (a6.2 i hi).2⟩⟩, a7, by show M2.2.2.2.2.1 = _; omega, by show M2.2.2.2.2.2 = _; omega, a10, a11⟩
    have hW := kk p e R s m args below meth c C n0 dom0 ad0 cA0 c0 s0 (ab_upA ad' i q) cA' dom T'.heap (locs ++ L) lsA _ _ (ab_At_op At' hi hic)
    have hst9 := ab_st_new (ad := ad') (q := q) (st := []) (dom := dom) hi (fun v hv => by cases hv)
    rw [hst9, ← t7] at hW
    have hXW := vx_catch (rest := st.map (ab_v ad)) hown pre x suf (by rw [htb]; exact t1) (fun z hz => (t2 z hz).imp id (fun h => ⟨h.1, h.2.elim fun n2 h2 => ⟨n2, hts _ h2.1, hEn.2.2.2.2.2.2.2.2.2.2.1 (E, n2) h2.2⟩⟩)) t3 t4 (hts _ t5) (va_Nw.use rfl (hEn.2.2.2.2.2.1 _ t6 rfl)) (by rw [e1]; exact hce9) hcv hcl9 hW
    obtain ⟨t9, b1, b2⟩ := hXW T' rfl X'
    exact ⟨t9, go.trans b1, b2⟩
def ab_wsh (me : ab_Me) : List Cond := Cond.codeWith me.1 (ab_bc me) (ab_ml me) me.2.2.2 (ab_hh me) :: ab_T
/-- the contract of a method with handlers -/
def ab_CH (w : ab_Wd) (d : Nat) (me : ab_Me) (as : List Value) (M : ab_M) (res : ab_Re) : Prop := ∀ (ad : Nat → Nat) (cA : Nat → ClassId) (dom : List Nat),
  vx_Met w.1 me.1 (ab_wsh me) (ab_rm d (res.2.2.2.2.2.1 - M.2.2.2.2.1) (res.2.2.2.2.2.2 - M.2.2.2.2.2)) (ab_Pc w as M ad cA dom) (ab_Qc w res M.2.2.2.1 dom ad cA) (ab_XC w res M.2.2.2.1 dom ad cA) (res.2.2.2.2.2.1 - M.2.2.2.2.1) (res.2.2.2.2.2.2 - M.2.2.2.2.2) (ab_A w)
theorem ab_CH_of {as : List Value} (hp : plainName me.1.cls = true) (hl : (ab_sl as).length ≤ ab_ml me) (hT : w.1.stackTraces = false) (k : ab_E w d me 0 (ab_ent as (ab_ml me)) [] M res) : ab_CH w d me as M res := by
  intro ad cA dom
  refine vx_ofWH (cc := ab_bc me) (maxL := ab_ml me) (ret := me.2.2.2) hp rfl ?_
  intro p e s m args below meth c s₁ B hml hv
  obtain ⟨rfl, hN, hE, hR, ho⟩ := hv
  have hts0 := atoms_spec (ws := ab_wsh me) B.pre
  have hts : ∀ t ∈ ab_T, t.before (as.map (ab_v ad)).toArray s = true := fun t ht => hts0 t (List.mem_cons_of_mem _ ht)
  have htab := vx_table (x := me.1) B (hts0 _ List.mem_cons_self)
  rw [lg_entry_eq]
  exact k p e _ s m _ below meth c ⟨B.exec, B.bytes, hml, B.returns, findClass_of_methodNamed B.named, hts, B.notSynchronized, (name_of_methodNamed B.named B.method).1, htab, hN, hE, Nat.le_refl _, Nat.le_refl _, hT⟩ M.2.2.2.1 dom ad cA M.2.2.2.2.1 M.2.2.2.2.2 ad cA dom s.heap [] _ 0 0
    ⟨hR, va_S.rf, ab_ent_lo ad as _ hl, ab_ent_ok ho, (fun v h => by cases h), ⟨fun _ h => h, fun _ _ => ⟨rfl, rfl⟩⟩, Nat.le_refl _, rfl, rfl, Nat.le_refl _, Nat.le_refl _⟩
/-- a static call of such a method -/
theorem ab_callSH {idx : Nat} {as : List Value} {rv : Option Value} (hd : decode (ab_bc me) pc = .ok (.invokestatic idx, 3)) (hcd : Cond.codeWith me2.1 (ab_bc me2) (ab_ml me2) me2.2.2.2 (ab_hh me2) ∈ ab_T) (hin : Cond.initialized me2.1.cls ∈ ab_T) (hde : me2.1.cls ≠ "java/lang/invoke/MethodHandle" ∧ me2.1.cls ≠ "java/lang/invoke/VarHandle" ∧ (parseMethodDescriptor me2.1.desc).map (fun d => d.parameters.length) = some as.length) (hm45 : ab_ml me2 ≤ 45) (h1 : Cond.methodLink me.1.cls idx me2.1 ∈ ab_T) (hsta : Cond.static me2.1 ∈ ab_T) (hst : (st.map fun v => v.category).sum ≤ 8) (hM : ab_CH w d me2 as M (.inl rv, M2))
    (g1 : M.2.2.2.2.1 ≤ M2.2.2.2.2.1) (g2 : M.2.2.2.2.2 ≤ M2.2.2.2.2.2) (g3 : M2.2.2.2.2.1 ≤ res.2.2.2.2.2.1) (g4 : M2.2.2.2.2.2 ≤ res.2.2.2.2.2.2) (hrv : ∀ j, rv ≠ some (.ref j)) (hk : ∀ i, ab_bl i ≤ M.2.2.2.1 → M2.2.2.1 i = M.2.2.1 i) (kk : ab_E w (d + 1) me (pc + 3) ls (rv.toList ++ st) (ab_bk M M2) res) : ab_E w (d + 1) me pc ls (as.reverse ++ st) M res := by
  intro p e R s m args below meth c C n0 dom0 ad0 cA0 c0 s0 ad cA dom H locs lsA cells slots At
  have C1 := C
  obtain ⟨hx, hb, hml, -, hown, hts, hlk, hnm, htb, hN, hEn, hFr, hLo, hTr⟩ := C1
  have A1 := At
  obtain ⟨a1, a2, a3, a4, a5, a6, a7, a8, a9, a10, a11⟩ := A1
  have oas : ∀ v ∈ as, ab_ok dom M.2.2.2.1 v := fun v hv => a5 v (List.mem_append_left _ (List.mem_reverse.mpr hv))
  have hpre := ab_preS (d := d) (me := me) C a1 a2 oas
  have hgood : GoodIn ab_T (ab_wsh me2) := by
    intro t ht
    have h1 : t ∈ ab_T := by
      rcases List.mem_cons.mp ht with e | e
      · rw [e]; exact hcd
      · exact e
    exact ⟨h1, good_of_word (List.mem_filter.mp h1).2⟩
  have hcw : vx_CSW R s args me.1.cls idx me2.1 (ab_bc me2) (ab_ml me2) me2.2.2.2 (ab_hh me2) (ab_wsh me2) (ab_rm d (M2.2.2.2.2.1 - M.2.2.2.2.1) (M2.2.2.2.2.2 - M.2.2.2.2.2)) (M2.2.2.2.2.1 - M.2.2.2.2.1) (M2.2.2.2.2.2 - M.2.2.2.2.2) as.length := by
    refine ⟨⟨rfl, rfl, by show d + 1 ≤ _; omega, by show 8 + (ab_ml me2 + 11) + 64 * d ≤ _; omega, pay_in hts hgood, List.mem_cons_self⟩, hts _ hcd, hts _ hin, ⟨hde.1, hde.2.1⟩, fun sig h => ?_, hts _ h1, hts _ hsta⟩
    have h2 := hde.2.2
    rw [h] at h2
    exact (Option.some.inj h2).symm
  have hrun := vx_runSX (S := ⟨hx, hb, hml, hown, hts⟩) (e := e) (below := below) (meth := meth) (locs := locs) (cells := cells) (slots := slots) (g := F0 m pc lsA ((as.reverse ++ st).map (ab_v ad))) (rest := st.map (ab_v ad)) (hM ad cA dom) hcw hpre rfl (by rw [List.length_map]) a3.1 (by show (as.reverse ++ st).map (ab_v ad) = (as.map (ab_v ad)).reverse ++ st.map (ab_v ad); rw [List.map_append, List.map_reverse]) (by show 2 * 0 + _ ≤ 8; rw [ab_sum_cat]; omega) hd ⟨by show cells + (M2.2.2.2.2.1 - _) ≤ _; omega, by show slots + (M2.2.2.2.2.2 - _) ≤ _; omega⟩
  refine ab_after (me := me) (ls := ls) (st := st) (M2 := M2) (res := res) ⟨a1, a2, a3, a4, fun v hv => a5 v (List.mem_append_right _ hv), a6, a7, a8, a9, a10, a11⟩ rfl hrun (by show M2.2.2.2.2.1 = _ + (M2.2.2.2.2.1 - _); omega) (by show M2.2.2.2.2.2 = _ + (M2.2.2.2.2.2 - _); omega) hrv hk (fun ad' cA' H1 locs1 At' => ?_)
  exact kk p e R s m args below meth c C n0 dom0 ad0 cA0 c0 s0 ad' cA' dom H1 locs1 lsA _ _ At'
end ABX
