/-! static calls, of the own class and of a nest mate -/
section ABS
variable {w : ab_Wd} {d : Nat} {me me2 : ab_Me} {pc : Nat} {ls st : List Value} {M M2 : ab_M} {res : ab_Re}
theorem ab_preS {p : Program} {R : Room} {s : State} {m : MethodId} {args : Array Value} {meth : Method} {c : Code} {ad : Nat → Nat} {cA : Nat → ClassId} {dom : List Nat} {H : Heap} {locs : List Loc} {as : List Value} (C : ab_Cx w (d + 1) me p R s m args meth c) (a1 : ab_Rel w ad cA dom M s H) (a2 : va_S (ab_A w) s.heap H locs) (oas : ∀ v ∈ as, ab_ok dom M.2.2.2.1 v) : PreS s H (ab_Pc w as M ad cA dom) (as.map (ab_v ad)) := by
  obtain ⟨hx, hb, hml, -, hown, hts, hlk, hnm, htb, hN, hEn, hFr, hLo, hTr⟩ := C
  refine ⟨ab_Pc_blind, fun U hU hW => ⟨rfl, ?_, ab_Env_call hW hN (by rw [hU]; exact a2) hEn, ab_Rel_moved hW.alike hU a1, oas⟩⟩
  rw [hU]; exact Nat.le_trans hN a2.1
/-- how a static call is linked: in the own class, or to a nest mate -/
def ab_Ln (me me2 : ab_Me) (idx : Nat) : Prop := Cond.static me2.1 ∈ ab_T ∧ (Cond.methodLink me.1.cls idx me2.1 ∈ ab_T ∨ ∃ host, Cond.methodLinkNest me.1.cls idx me2.1 host ∈ lw_tbl)
theorem ab_runS {p : Program} {e : Env} {R : Room} {s : State} {m : MethodId} {args : Array Value} {below : List Frame} {meth : Method} {c : Code} {n0 : Nat} {dom0 : List Nat} {ad0 : Nat → Nat} {cA0 : Nat → ClassId} {c0 s0 : Nat} {ad : Nat → Nat} {cA : Nat → ClassId} {dom : List Nat} {H : Heap} {locs : List Loc} {lsA : Array Slot} {cells slots : Nat} {idx : Nat} {as : List Value} {res2 : ab_Re} {mc ms : Nat}
    (C : ab_Cx w (d + 1) me p R s m args meth c) (At : ab_At w me ls (as.reverse ++ st) M res R s n0 dom0 ad0 cA0 c0 s0 ad cA dom H locs lsA cells slots)
    (hd : decode (ab_bc me) pc = .ok (.invokestatic idx, 3)) (hM : ab_C w d me2 as M res2) (hce : ab_Ce me2 as.length) (h1 : ab_Ln me me2 idx) (hst : (st.map fun v => v.category).sum ≤ 8) (hmc : res2.2.2.2.2.2.1 - M.2.2.2.2.1 = mc) (hms : res2.2.2.2.2.2.2 - M.2.2.2.2.2 = ms) (hf : cells + mc ≤ R.cells ∧ slots + ms ≤ R.slots) :
    vx_Run p w.1 e R s m args below meth c H locs cells slots mc ms (F0 m pc lsA ((as.reverse ++ st).map (ab_v ad))) (st.map (ab_v ad)) (ab_Qc w res2 M.2.2.2.1 dom ad cA (as.map (ab_v ad)).toArray) (ab_XC w res2 M.2.2.2.1 dom ad cA) (ab_A w) := by
  have C1 := C
  obtain ⟨hx, hb, hml, -, hown, hts, hlk, hnm, htb, hN, hEn, hFr, hLo, hTr⟩ := C1
  obtain ⟨a1, a2, a3, a4, a5, a6, a7, a8, a9, a10, a11⟩ := At
  obtain ⟨k1, k2, k3, k4⟩ := hce
  subst hmc; subst hms
  have oas : ∀ v ∈ as, ab_ok dom M.2.2.2.1 v := fun v hv => a5 v (List.mem_append_left _ (List.mem_reverse.mpr hv))
  have hpre := ab_preS (d := d) (me := me) C a1 a2 oas
  have hroom : (ab_rm d (res2.2.2.2.2.2.1 - M.2.2.2.2.1) (res2.2.2.2.2.2.2 - M.2.2.2.2.2)).frames + 1 ≤ R.frames ∧ 8 + (ab_ml me2 + 11) + (ab_rm d (res2.2.2.2.2.2.1 - M.2.2.2.2.1) (res2.2.2.2.2.2.2 - M.2.2.2.2.2)).locals ≤ R.locals := ⟨by show d + 1 ≤ _; omega, by show 8 + (ab_ml me2 + 11) + 64 * d ≤ _; omega⟩
  have hstk : (as.reverse ++ st).map (ab_v ad) = (as.map (ab_v ad)).reverse ++ st.map (ab_v ad) := by rw [List.map_append, List.map_reverse]
  have hroom2 : 2 * (F0 m pc lsA ((as.reverse ++ st).map (ab_v ad))).monitorRoom + ((st.map (ab_v ad)).map fun v => v.category).sum ≤ 8 := by show 2 * 0 + _ ≤ 8; rw [ab_sum_cat]; omega
  obtain ⟨hs, h | ⟨host, h⟩⟩ := h1
  · have hcw := callB_of (R := R) as.length hts (ab_good me2 k1) rfl (rm := ab_rm d (res2.2.2.2.2.2.1 - M.2.2.2.2.1) (res2.2.2.2.2.2.2 - M.2.2.2.2.2)) rfl rfl (hts _ k2) (hts _ h) k3 hroom
    exact vx_runS (S := ⟨hx, hb, hml, hown, hts⟩) (hM ad cA dom) ⟨hcw, hts _ hs⟩ hpre rfl (by rw [List.length_map]) a3.1 hstk hroom2 hd hf
  · have hcw := va_cnB (R := R) as.length hts (ab_good me2 k1) rfl (rm := ab_rm d (res2.2.2.2.2.2.1 - M.2.2.2.2.1) (res2.2.2.2.2.2.2 - M.2.2.2.2.2)) rfl rfl (hEn.2.2.2.2.2.1 _ h rfl) (hts _ k2) k3 hroom
    exact vx_runSN (S := ⟨hx, hb, hml, hown, hts⟩) (hM ad cA dom) ⟨hcw, hts _ hs, trivial⟩ hpre rfl (by rw [List.length_map]) a3.1 hstk hroom2 hd hf
/-- invokestatic, it returns -/
theorem ab_callS {idx : Nat} {as : List Value} {rv : Option Value} (hd : decode (ab_bc me) pc = .ok (.invokestatic idx, 3)) (hce : ab_Ce me2 as.length) (h1 : ab_Ln me me2 idx) (hst : (st.map fun v => v.category).sum ≤ 8) (hM : ab_C w d me2 as M (.inl rv, M2))
    (g1 : M.2.2.2.2.1 ≤ M2.2.2.2.2.1) (g2 : M.2.2.2.2.2 ≤ M2.2.2.2.2.2) (g3 : M2.2.2.2.2.1 ≤ res.2.2.2.2.2.1) (g4 : M2.2.2.2.2.2 ≤ res.2.2.2.2.2.2) (hrv : ∀ j, rv ≠ some (.ref j)) (hk : ∀ i, ab_bl i ≤ M.2.2.2.1 → M2.2.2.1 i = M.2.2.1 i) (kk : ab_E w (d + 1) me (pc + 3) ls (rv.toList ++ st) (ab_bk M M2) res) : ab_E w (d + 1) me pc ls (as.reverse ++ st) M res := by
  intro p e R s m args below meth c C n0 dom0 ad0 cA0 c0 s0 ad cA dom H locs lsA cells slots At
  have A1 := At
  obtain ⟨a1, a2, a3, a4, a5, a6, a7, a8, a9, a10, a11⟩ := A1
  have hrun := ab_runS (e := e) (below := below) (pc := pc) C At hd hM hce h1 hst rfl rfl ⟨by show cells + (M2.2.2.2.2.1 - _) ≤ _; omega, by show slots + (M2.2.2.2.2.2 - _) ≤ _; omega⟩
  refine ab_after (me := me) (ls := ls) (st := st) (M2 := M2) (res := res) ⟨a1, a2, a3, a4, fun v hv => a5 v (List.mem_append_right _ hv), a6, a7, a8, a9, a10, a11⟩ rfl hrun (by show M2.2.2.2.2.1 = _ + (M2.2.2.2.2.1 - _); omega) (by show M2.2.2.2.2.2 = _ + (M2.2.2.2.2.2 - _); omega) hrv hk (fun ad' cA' H1 locs1 At' => ?_)
  exact kk p e R s m args below meth c C n0 dom0 ad0 cA0 c0 s0 ad' cA' dom H1 locs1 lsA _ _ At'
/-- the switch's cases and its default -/
theorem ab_tab_in {x k : Int32} {lo : Int} {j : Nat} (h : x = k) (hk : k.toInt - lo = (j : Int)) : (x.toInt - lo).toNat = j := by subst h; rw [hk]; rfl
end ABS
