/-! THE CALLS -/
theorem ab_toArr (ad : Nat → Nat) (b : Nat) (as : List Value) : (Value.ref (ad b) :: as.map (ab_v ad)) = (Value.ref b :: as).map (ab_v ad) := rfl
section ABI
variable {w : ab_Wd} {d : Nat} {me me2 : ab_Me} {pc : Nat} {ls st : List Value} {M M2 : ab_M} {res : ab_Re}
/-- what a caller must know of the callee: its words and sizes -/
def ab_Ce (me2 : ab_Me) (n : Nat) : Prop := Cond.code me2.1 (ab_bc me2) (ab_ml me2) me2.2.2.2 ∈ ab_T ∧ Cond.initialized me2.1.cls ∈ ab_T ∧ (me2.1.cls ≠ "java/lang/invoke/MethodHandle" ∧ me2.1.cls ≠ "java/lang/invoke/VarHandle" ∧ (parseMethodDescriptor me2.1.desc).map (fun d => d.parameters.length) = some n) ∧ ab_ml me2 ≤ 45
theorem ab_runV {p : Program} {e : Env} {R : Room} {s : State} {m : MethodId} {args : Array Value} {below : List Frame} {meth : Method} {c : Code} {n0 : Nat} {dom0 : List Nat} {ad0 : Nat → Nat} {cA0 : Nat → ClassId} {c0 s0 : Nat} {ad : Nat → Nat} {cA : Nat → ClassId} {dom : List Nat} {H : Heap} {locs : List Loc} {lsA : Array Slot} {cells slots : Nat} {idx b : Nat} {as : List Value} {res2 : ab_Re} {mc ms : Nat}
    (C : ab_Cx w (d + 1) me p R s m args meth c) (At : ab_At w me ls (as.reverse ++ .ref b :: st) M res R s n0 dom0 ad0 cA0 c0 s0 ad cA dom H locs lsA cells slots)
    (hd : decode (ab_bc me) pc = .ok (.invokevirtual idx, 3)) (hM : ab_C w d me2 (.ref b :: as) M res2) (hce : ab_Ce me2 as.length) (h1 : Cond.methodLink me.1.cls idx me2.1 ∈ ab_T) (h2 : Cond.instanceMethod me2.1 ∈ ab_T) (h3 : Cond.selects me2.1.cls me2.1 me2.1 ∈ ab_T) (hb9 : ab_cd b < 12) (hcl : ab_R (ab_cd b) = me2.1.cls) (hst : (st.map fun v => v.category).sum ≤ 8) (hmc : res2.2.2.2.2.2.1 - M.2.2.2.2.1 = mc) (hms : res2.2.2.2.2.2.2 - M.2.2.2.2.2 = ms) (hf : cells + mc ≤ R.cells ∧ slots + ms ≤ R.slots) :
    vx_Run p w.1 e R s m args below meth c H locs cells slots mc ms (F0 m pc lsA ((as.reverse ++ .ref b :: st).map (ab_v ad))) (st.map (ab_v ad)) (ab_Qc w res2 M.2.2.2.1 dom ad cA ((Value.ref b :: as).map (ab_v ad)).toArray) (ab_XC w res2 M.2.2.2.1 dom ad cA) (ab_A w) := by
  obtain ⟨hx, hb, hml, -, hown, hts, hlk, hnm, htb, hN, hEn, hFr, hLo, hTr⟩ := C
  obtain ⟨a1, a2, a3, a4, a5, a6, a7, a8, a9, a10, a11⟩ := At
  obtain ⟨k1, k2, k3, k4⟩ := hce
  subst hmc; subst hms
  have oas : ∀ v ∈ as, ab_ok dom M.2.2.2.1 v := fun v hv => a5 v (List.mem_append_left _ (List.mem_reverse.mpr hv))
  have ob : ab_ok dom M.2.2.2.1 (.ref b) := a5 _ (List.mem_append_right _ List.mem_cons_self)
  obtain ⟨q, hq⟩ := ab_in_dom ob (by omega)
  have he := ab_ws_at (ad := ad) (cA := cA) (M := M) hq
  rw [ab_enc_o hb9] at he
  have hrec := va_recv hEn.1 a1.1 (ab_cl_at _ hb9) he
  have hcw : CallW R s args me.1.cls me2.1.cls idx me2.1 (ab_bc me2) (ab_ml me2) me2.2.2.2 (ab_wsm me2) (ab_rm d (res2.2.2.2.2.2.1 - M.2.2.2.2.1) (res2.2.2.2.2.2.2 - M.2.2.2.2.2)) (res2.2.2.2.2.2.1 - M.2.2.2.2.1) (res2.2.2.2.2.2.2 - M.2.2.2.2.2) as.length :=
    ⟨callB_of as.length hts (ab_good me2 k1) rfl rfl rfl (hts _ k2) (hts _ h1) k3 ⟨by show d + 1 ≤ _; omega, by show 8 + (ab_ml me2 + 11) + 64 * d ≤ _; omega⟩, hts _ h2, hts _ h3⟩
  have hpre : PreV s H me2.1.cls (ad b) (ab_Pc w (.ref b :: as) M ad cA dom) (as.map (ab_v ad)) := by
    refine ⟨ab_Pc_blind, ?_, fun U hU hW => ⟨rfl, ?_, ab_Env_call hW hN (by rw [hU]; exact a2) hEn, ab_Rel_moved hW.alike hU a1, List.forall_mem_cons.mpr ⟨ob, oas⟩⟩⟩
    · rw [← hcl]; exact hrec
    · rw [hU]; exact Nat.le_trans hN a2.1
  exact vx_runV (S := ⟨hx, hb, hml, hown, hts⟩) (hM ad cA dom) hcw hpre rfl (by rw [List.length_map]) a3.1 (by show (as.reverse ++ .ref b :: st).map (ab_v ad) = (as.map (ab_v ad)).reverse ++ .ref (ad b) :: st.map (ab_v ad); rw [List.map_append, List.map_reverse]; rfl) (by show 2 * 0 + _ ≤ 8; rw [ab_sum_cat]; omega) hd hf
/-- invokevirtual, it returns -/
theorem ab_callV {idx b : Nat} {as : List Value} {rv : Option Value} (hd : decode (ab_bc me) pc = .ok (.invokevirtual idx, 3)) (hce : ab_Ce me2 as.length) (h1 : Cond.methodLink me.1.cls idx me2.1 ∈ ab_T) (h2 : Cond.instanceMethod me2.1 ∈ ab_T) (h3 : Cond.selects me2.1.cls me2.1 me2.1 ∈ ab_T) (hb9 : ab_cd b < 12) (hcl : ab_R (ab_cd b) = me2.1.cls) (hst : (st.map fun v => v.category).sum ≤ 8) (hM : ab_C w d me2 (.ref b :: as) M (.inl rv, M2))
    (g1 : M.2.2.2.2.1 ≤ M2.2.2.2.2.1) (g2 : M.2.2.2.2.2 ≤ M2.2.2.2.2.2) (g3 : M2.2.2.2.2.1 ≤ res.2.2.2.2.2.1) (g4 : M2.2.2.2.2.2 ≤ res.2.2.2.2.2.2) (hrv : ∀ j, rv ≠ some (.ref j)) (hk : ∀ i, ab_bl i ≤ M.2.2.2.1 → M2.2.2.1 i = M.2.2.1 i) (kk : ab_E w (d + 1) me (pc + 3) ls (rv.toList ++ st) (ab_bk M M2) res) : ab_E w (d + 1) me pc ls (as.reverse ++ .ref b :: st) M res := by
  intro p e R s m args below meth c C n0 dom0 ad0 cA0 c0 s0 ad cA dom H locs lsA cells slots At
  have A1 := At
  obtain ⟨a1, a2, a3, a4, a5, a6, a7, a8, a9, a10, a11⟩ := A1
  have hrun := ab_runV (e := e) (below := below) (pc := pc) C At hd hM hce h1 h2 h3 hb9 hcl hst rfl rfl ⟨by show cells + (M2.2.2.2.2.1 - _) ≤ _; omega, by show slots + (M2.2.2.2.2.2 - _) ≤ _; omega⟩
  refine ab_after (me := me) (ls := ls) (st := st) (M2 := M2) (res := res) ⟨a1, a2, a3, a4, fun v hv => a5 v (List.mem_append_right _ (List.mem_cons_of_mem _ hv)), a6, a7, a8, a9, a10, a11⟩ rfl hrun (by show M2.2.2.2.2.1 = _ + (M2.2.2.2.2.1 - _); omega) (by show M2.2.2.2.2.2 = _ + (M2.2.2.2.2.2 - _); omega) hrv hk (fun ad' cA' H1 locs1 At' => ?_)
  exact kk p e R s m args below meth c C n0 dom0 ad0 cA0 c0 s0 ad' cA' dom H1 locs1 lsA _ _ At'
/-- invokevirtual, it throws -/
theorem ab_callVX {idx b : Nat} {as : List Value} {E : String} (hhh : ab_hh me = []) (hd : decode (ab_bc me) pc = .ok (.invokevirtual idx, 3)) (hce : ab_Ce me2 as.length) (h1 : Cond.methodLink me.1.cls idx me2.1 ∈ ab_T) (h2 : Cond.instanceMethod me2.1 ∈ ab_T) (h3 : Cond.selects me2.1.cls me2.1 me2.1 ∈ ab_T) (hb9 : ab_cd b < 12) (hcl : ab_R (ab_cd b) = me2.1.cls) (hst : (st.map fun v => v.category).sum ≤ 8) (hM : ab_C w d me2 (.ref b :: as) M (.inr E, M2))
    (g1 : M.2.2.2.2.1 ≤ M2.2.2.2.2.1) (g2 : M.2.2.2.2.2 ≤ M2.2.2.2.2.2) (hk : ∀ i, ab_bl i ≤ M.2.2.2.1 → M2.2.2.1 i = M.2.2.1 i) (hres : res = (.inr E, ab_bk M M2)) : ab_E w (d + 1) me pc ls (as.reverse ++ .ref b :: st) M res := by
  subst hres
  intro p e R s m args below meth c C n0 dom0 ad0 cA0 c0 s0 ad cA dom H locs lsA cells slots At
  have A1 := At
  obtain ⟨a1, a2, a3, a4, a5, a6, a7, a8, a9, a10, a11⟩ := A1
  have C1 := C
  obtain ⟨hx, hb, hml, -, hown, hts, hlk, hnm, htb, hN, hEn, hFr, hLo, hTr⟩ := C1
  have a10' : M2.2.2.2.2.1 - c0 ≤ R.cells := a10
  have a11' : M2.2.2.2.2.2 - s0 ≤ R.slots := a11
  have hrun := ab_runV (e := e) (below := below) (pc := pc) C At hd hM hce h1 h2 h3 hb9 hcl hst rfl rfl ⟨by show cells + (M2.2.2.2.2.1 - _) ≤ _; omega, by show slots + (M2.2.2.2.2.2 - _) ≤ _; omega⟩
  exact ab_afterX (me := me) (ls := ls) (st := st) ⟨a1, a2, a3, a4, fun v hv => a5 v (List.mem_append_right _ (List.mem_cons_of_mem _ hv)), a6, a7, a8, a9, a10, a11⟩ rfl (fun x hx => by rw [htb, hhh] at hx; cases hx) hlk hrun (by show M2.2.2.2.2.1 = _ + (M2.2.2.2.2.1 - _); omega) (by show M2.2.2.2.2.2 = _ + (M2.2.2.2.2.2 - _); omega) hk
end ABI
