/-! new arrays, arraycopy, throws -/
section ABQ
variable {w : ab_Wd} {d : Nat} {me : ab_Me} {pc : Nat} {ls st : List Value} {M : ab_M} {res : ab_Re}
theorem ab_newa_int {i n : Nat} {x : Int32} (hi : ab_bl i = M.2.2.2.1 + 1) (hcd : ab_cd i = 16) (hln : ab_ln i = n) (hd : decode (ab_bc me) pc = .ok (.newarray .int, 2)) (h1 : Cond.arrayClass .int ∈ ab_T) (hx0 : ¬ x < 0) (hxn : x.toNatClampNeg = n) (hc9 : M.2.2.2.2.1 + 1 ≤ res.2.2.2.2.2.1) (hs9 : M.2.2.2.2.2 + n ≤ res.2.2.2.2.2.2) (kk : ab_E w d me (pc + 2) ls (.ref i :: st) (ab_mk M i n) res) : ab_E w d me pc ls (.int x :: st) M res := by
  intro p e R s m args below meth c C n0 dom0 ad0 cA0 c0 s0 ad cA dom H locs lsA cells slots At
  have C1 := C
  obtain ⟨hx, hb, hml, -, hown, hts, hlk, hnm, htb, hN, hEn, hFr, hLo, hTr⟩ := C1
  have hK := hEn.1
  have A1 := At
  obtain ⟨a1, a2, a3, a4, a5, a6, a7, a8, a9, a10, a11⟩ := A1
  have hn3 : n < 32768 := by rw [← hln]; unfold ab_ln; omega
  refine va_newa (atype := .int) (ty := .int) (a0 := (n, .inl (fun _ => 0))) hx hb (hts _ h1) rfl hK a1.1 a1.2.1 a2 (fun q hq => Nat.le_trans hN hq) (fun cA => rfl) hx0 hxn (by show n * 4 ≤ 536870912; omega) (by omega) (by omega) hd (fun q c9 H1 hK1 hP hD hS => ?_)
  have o3 := (List.forall_mem_cons.mp a5).2
  have hst := ab_st_new (ad := ad) (q := q) hi o3
  rw [← hst]
  have hq := hK1.2 0 (c9, .int) rfl
  refine kk p e R s m args below meth c C n0 dom0 ad0 cA0 c0 s0 (ab_upA ad i q) (ab_upA cA i c9) (dom ++ [i]) H1 locs lsA _ _ (ab_At_new ⟨a1, a2, a3, a4, o3, a6, a7, a8, a9, a10, a11⟩ hi ?_ (Or.inr ⟨by omega, by omega, ?_⟩) hP hD hS)
  · rw [ab_enc_a (by omega), hln, ab_con_i (by omega)]
    simp [ab_upA, ab_mk, ab_row_eq]
  · rw [hcd]
    simp only [ab_upA, if_true]
    exact hq
theorem ab_newa_byte {i n : Nat} {x : Int32} (hi : ab_bl i = M.2.2.2.1 + 1) (hcd : ab_cd i = 17) (hln : ab_ln i = n) (hd : decode (ab_bc me) pc = .ok (.newarray .byte, 2)) (h1 : Cond.arrayClass .byte ∈ ab_T) (hx0 : ¬ x < 0) (hxn : x.toNatClampNeg = n) (hc9 : M.2.2.2.2.1 + 1 ≤ res.2.2.2.2.2.1) (hs9 : M.2.2.2.2.2 + n ≤ res.2.2.2.2.2.2) (kk : ab_E w d me (pc + 2) ls (.ref i :: st) (ab_mk M i n) res) : ab_E w d me pc ls (.int x :: st) M res := by
  intro p e R s m args below meth c C n0 dom0 ad0 cA0 c0 s0 ad cA dom H locs lsA cells slots At
  have C1 := C
  obtain ⟨hx, hb, hml, -, hown, hts, hlk, hnm, htb, hN, hEn, hFr, hLo, hTr⟩ := C1
  have hK := hEn.1
  have A1 := At
  obtain ⟨a1, a2, a3, a4, a5, a6, a7, a8, a9, a10, a11⟩ := A1
  have hn3 : n < 32768 := by rw [← hln]; unfold ab_ln; omega
  refine va_newa (atype := .byte) (ty := .byte) (a0 := (n, .inl (fun _ => 0))) hx hb (hts _ h1) rfl hK a1.1 a1.2.1 a2 (fun q hq => Nat.le_trans hN hq) (fun cA => rfl) hx0 hxn (by show n * 1 ≤ 536870912; omega) (by omega) (by omega) hd (fun q c9 H1 hK1 hP hD hS => ?_)
  have o3 := (List.forall_mem_cons.mp a5).2
  have hst := ab_st_new (ad := ad) (q := q) hi o3
  rw [← hst]
  have hq := hK1.2 0 (c9, .byte) rfl
  refine kk p e R s m args below meth c C n0 dom0 ad0 cA0 c0 s0 (ab_upA ad i q) (ab_upA cA i c9) (dom ++ [i]) H1 locs lsA _ _ (ab_At_new ⟨a1, a2, a3, a4, o3, a6, a7, a8, a9, a10, a11⟩ hi ?_ (Or.inr ⟨by omega, by omega, ?_⟩) hP hD hS)
  · rw [ab_enc_a (by omega), hln, ab_con_i (by omega)]
    simp [ab_upA, ab_mk, ab_row_eq]
  · rw [hcd]
    simp only [ab_upA, if_true]
    exact hq
theorem ab_newa_boolean {i n : Nat} {x : Int32} (hi : ab_bl i = M.2.2.2.1 + 1) (hcd : ab_cd i = 18) (hln : ab_ln i = n) (hd : decode (ab_bc me) pc = .ok (.newarray .boolean, 2)) (h1 : Cond.arrayClass .boolean ∈ ab_T) (hx0 : ¬ x < 0) (hxn : x.toNatClampNeg = n) (hc9 : M.2.2.2.2.1 + 1 ≤ res.2.2.2.2.2.1) (hs9 : M.2.2.2.2.2 + n ≤ res.2.2.2.2.2.2) (kk : ab_E w d me (pc + 2) ls (.ref i :: st) (ab_mk M i n) res) : ab_E w d me pc ls (.int x :: st) M res := by
  intro p e R s m args below meth c C n0 dom0 ad0 cA0 c0 s0 ad cA dom H locs lsA cells slots At
  have C1 := C
  obtain ⟨hx, hb, hml, -, hown, hts, hlk, hnm, htb, hN, hEn, hFr, hLo, hTr⟩ := C1
  have hK := hEn.1
  have A1 := At
  obtain ⟨a1, a2, a3, a4, a5, a6, a7, a8, a9, a10, a11⟩ := A1
  have hn3 : n < 32768 := by rw [← hln]; unfold ab_ln; omega
  refine va_newa (atype := .boolean) (ty := .boolean) (a0 := (n, .inl (fun _ => 0))) hx hb (hts _ h1) rfl hK a1.1 a1.2.1 a2 (fun q hq => Nat.le_trans hN hq) (fun cA => rfl) hx0 hxn (by show n * 1 ≤ 536870912; omega) (by omega) (by omega) hd (fun q c9 H1 hK1 hP hD hS => ?_)
  have o3 := (List.forall_mem_cons.mp a5).2
  have hst := ab_st_new (ad := ad) (q := q) hi o3
  rw [← hst]
  have hq := hK1.2 0 (c9, .boolean) rfl
  refine kk p e R s m args below meth c C n0 dom0 ad0 cA0 c0 s0 (ab_upA ad i q) (ab_upA cA i c9) (dom ++ [i]) H1 locs lsA _ _ (ab_At_new ⟨a1, a2, a3, a4, o3, a6, a7, a8, a9, a10, a11⟩ hi ?_ (Or.inr ⟨by omega, by omega, ?_⟩) hP hD hS)
  · rw [ab_enc_a (by omega), hln, ab_con_i (by omega)]
    simp [ab_upA, ab_mk, ab_row_eq]
  · rw [hcd]
    simp only [ab_upA, if_true]
    exact hq
theorem ab_newa_long {i n : Nat} {x : Int32} (hi : ab_bl i = M.2.2.2.1 + 1) (hcd : ab_cd i = 19) (hln : ab_ln i = n) (hd : decode (ab_bc me) pc = .ok (.newarray .long, 2)) (h1 : Cond.arrayClass .long ∈ ab_T) (hx0 : ¬ x < 0) (hxn : x.toNatClampNeg = n) (hc9 : M.2.2.2.2.1 + 1 ≤ res.2.2.2.2.2.1) (hs9 : M.2.2.2.2.2 + n ≤ res.2.2.2.2.2.2) (kk : ab_E w d me (pc + 2) ls (.ref i :: st) (ab_mk M i n) res) : ab_E w d me pc ls (.int x :: st) M res := by
  intro p e R s m args below meth c C n0 dom0 ad0 cA0 c0 s0 ad cA dom H locs lsA cells slots At
  have C1 := C
  obtain ⟨hx, hb, hml, -, hown, hts, hlk, hnm, htb, hN, hEn, hFr, hLo, hTr⟩ := C1
  have hK := hEn.1
  have A1 := At
  obtain ⟨a1, a2, a3, a4, a5, a6, a7, a8, a9, a10, a11⟩ := A1
  have hn3 : n < 32768 := by rw [← hln]; unfold ab_ln; omega
  refine va_newa (atype := .long) (ty := .long) (a0 := (n, .inr (.inl (fun _ => 0)))) hx hb (hts _ h1) rfl hK a1.1 a1.2.1 a2 (fun q hq => Nat.le_trans hN hq) (fun cA => rfl) hx0 hxn (by show n * 8 ≤ 536870912; omega) (by omega) (by omega) hd (fun q c9 H1 hK1 hP hD hS => ?_)
  have o3 := (List.forall_mem_cons.mp a5).2
  have hst := ab_st_new (ad := ad) (q := q) hi o3
  rw [← hst]
  have hq := hK1.2 0 (c9, .long) rfl
  refine kk p e R s m args below meth c C n0 dom0 ad0 cA0 c0 s0 (ab_upA ad i q) (ab_upA cA i c9) (dom ++ [i]) H1 locs lsA _ _ (ab_At_new ⟨a1, a2, a3, a4, o3, a6, a7, a8, a9, a10, a11⟩ hi ?_ (Or.inr ⟨by omega, by omega, ?_⟩) hP hD hS)
  · rw [ab_enc_a (by omega), hln, ab_con_l hcd]
    simp [ab_upA, ab_mk, ab_row_eq]
  · rw [hcd]
    simp only [ab_upA, if_true]
    exact hq
theorem ab_newq {i n idx : Nat} {x : Int32} (hi : ab_bl i = M.2.2.2.1 + 1) (hcd : ab_cd i = 20) (hln : ab_ln i = n) (hd : decode (ab_bc me) pc = .ok (.anewarray idx, 3)) (h1 : Cond.classLink me.1.cls idx "java/lang/String" ∈ ab_T) (hx0 : ¬ x < 0) (hxn : x.toNatClampNeg = n) (hc9 : M.2.2.2.2.1 + 1 ≤ res.2.2.2.2.2.1) (hs9 : M.2.2.2.2.2 + n ≤ res.2.2.2.2.2.2) (kk : ab_E w d me (pc + 3) ls (.ref i :: st) (ab_mk M i n) res) : ab_E w d me pc ls (.int x :: st) M res := by
  intro p e R s m args below meth c C n0 dom0 ad0 cA0 c0 s0 ad cA dom H locs lsA cells slots At
  have C1 := C
  obtain ⟨hx, hb, hml, -, hown, hts, hlk, hnm, htb, hN, hEn, hFr, hLo, hTr⟩ := C1
  have hK := hEn.1
  have A1 := At
  obtain ⟨a1, a2, a3, a4, a5, a6, a7, a8, a9, a10, a11⟩ := A1
  have hn3 : n < 32768 := by rw [← hln]; unfold ab_ln; omega
  refine va_newq (C := "java/lang/String") hx hb hown (hts _ h1) hEn.2.2.2.2.2.2.2.2.2.1 hK a1.1 a1.2.1 a2 (fun q hq => Nat.le_trans hN hq) hx0 hxn (by omega) (by omega) (by omega) hd (fun q c9 H1 hK1 hP hD hS => ?_)
  have o3 := (List.forall_mem_cons.mp a5).2
  have hst := ab_st_new (ad := ad) (q := q) hi o3
  rw [← hst]
  have hq := hK1.2 0 (c9, .object "java/lang/String") rfl
  refine kk p e R s m args below meth c C n0 dom0 ad0 cA0 c0 s0 (ab_upA ad i q) (ab_upA cA i c9) (dom ++ [i]) H1 locs lsA _ _ (ab_At_new ⟨a1, a2, a3, a4, o3, a6, a7, a8, a9, a10, a11⟩ hi ?_ (Or.inr ⟨by omega, by omega, ?_⟩) hP hD hS)
  · rw [ab_enc_a (by omega), hln, ab_con_q hcd]
    simp [ab_upA, ab_mk, ab_row_eq, ab_q]
  · rw [hcd]
    simp only [ab_upA, if_true]
    exact hq
theorem ab_sum_cat (ad : Nat → Nat) (st : List Value) : ((st.map (ab_v ad)).map fun v => v.category).sum = (st.map fun v => v.category).sum := by
  rw [List.map_map]; congr 1; apply List.map_congr_left; intro v _; exact ab_v_cat ad v
/-- System.arraycopy over int arrays -/
theorem ab_copy {idx i j n0 n1 : Nat} {sp dp n : Int32} (hd : decode (ab_bc me) pc = .ok (.invokestatic idx, 3)) (h1 : Cond.methodLink me.1.cls idx arraycopyName ∈ ab_T) (h2 : Cond.native arraycopyName ∈ ab_T) (h3 : Cond.static arraycopyName ∈ ab_T) (h4 : Cond.initialized "java/lang/System" ∈ ab_T) (hi : ab_cd i = 16) (hj : ab_cd j = 16) (hli : ab_ln i = n0) (hlj : ab_ln j = n1) (g1 : ¬ sp < 0) (g2 : ¬ dp < 0) (g3 : ¬ n < 0) (g4 : sp.toNatClampNeg + n.toNatClampNeg ≤ n0) (g5 : dp.toNatClampNeg + n.toNatClampNeg ≤ n1) (hdp : 1 ≤ d) (hst : (st.map fun v => v.category).sum ≤ 16)
    (kk : ab_E w d me (pc + 3) ls st (ab_row M.1 j (va_cpy (M.1 i) (M.1 j) sp.toNatClampNeg dp.toNatClampNeg n.toNatClampNeg), M.2) res) : ab_E w d me pc ls (.int n :: .int dp :: .ref j :: .int sp :: .ref i :: st) M res := by
  intro p e R s m args below meth c C n9 dom0 ad0 cA0 c0 s0 ad cA dom H locs lsA cells slots At
  have C1 := C
  obtain ⟨hx, hb, hml, -, hown, hts, hlk, hnm, htb, hN, hEn, hFr, hLo, hTr⟩ := C1
  have hK := hEn.1
  have A1 := At
  obtain ⟨a1, a2, a3, a4, a5, a6, a7, a8, a9, a10, a11⟩ := A1
  subst hli; subst hlj
  obtain ⟨-, b1⟩ := List.forall_mem_cons.mp a5
  obtain ⟨-, b1⟩ := List.forall_mem_cons.mp b1
  obtain ⟨oj, b1⟩ := List.forall_mem_cons.mp b1
  obtain ⟨-, b1⟩ := List.forall_mem_cons.mp b1
  obtain ⟨oi, o3⟩ := List.forall_mem_cons.mp b1
  obtain ⟨qi, hqi⟩ := ab_in_dom oi (by omega)
  obtain ⟨qj, hqj⟩ := ab_in_dom oj (by omega)
  have hei := ab_ws_at (ad := ad) (cA := cA) (M := M) hqi
  have hej := ab_ws_at (ad := ad) (cA := cA) (M := M) hqj
  rw [ab_enc_a (by omega), ab_con_i (by omega)] at hei hej
  have hri := (a1.2.2.1 i (List.mem_of_getElem? hqi)).2.resolve_left (by omega)
  have hrj := (a1.2.2.1 j (List.mem_of_getElem? hqj)).2.resolve_left (by omega)
  have hti : ab_aty (ab_cd i) = .int := by rw [hi]; rfl
  have htj : ab_aty (ab_cd j) = .int := by rw [hj]; rfl
  rw [hti] at hri
  rw [htj] at hrj
  have hK1 : va_K w.2.1 ab_cl [(cA i, .int), (cA j, .int)] s := by
    refine ⟨hK.1, fun k q hk => ?_⟩
    match k, hk with
    | 0, hk => cases hk; exact hri.2.2
    | 1, hk => cases hk; exact hrj.2.2
    | k + 2, hk => simp at hk
  have hsum := ab_sum_cat ad st
  have hnat : nativeFrameWords "java/lang/System" "arraycopy" 5 ≤ 30 := by decide +kernel
  refine va_copyi hx hb (hml.trans a3.1.symm) hown (hts _ h1) (hts _ h2) (hts _ h3) (hts _ h4) hK1 a1.1 a1.2.1 a2 qi qj 0 1 hei hej rfl rfl rfl g1 g2 g3 g4 g5 (fun _ _ => rfl) (by omega) (by rw [hsum]; omega) hd (fun H1 locs1 hP hD hS => ?_)
  refine kk p e R s m args below meth c C n9 dom0 ad0 cA0 c0 s0 ad cA dom H1 locs1 lsA cells slots ⟨ab_Rel_set a1 hqj ?_ (fun q hq => ab_row_ne hq) (fun q hq => rfl) (fun q hq => rfl) rfl (fun k => a1.2.2.2.1 j (List.mem_of_getElem? hqj) k) hP hD, hS, a3, a4, o3, a6, a7, a8, a9, a10, a11⟩
  rw [ab_enc_a (by omega), ab_con_i (by omega)]
  simp [ab_row_eq]
theorem ab_Rel_moved {ad : Nat → Nat} {cA : Nat → ClassId} {dom : List Nat} {s t : State} {H H1 : Heap} (hvm : s.vm.Alike t.vm) (hh : H1 = H) (h : ab_Rel w ad cA dom M s H) : ab_Rel w ad cA dom M t H1 := by
  obtain ⟨r1, r2, r3, r4, r5⟩ := h
  subst hh
  exact ⟨r1, r2, fun j hj => ⟨(r3 j hj).1, (r3 j hj).2.imp id (fun h => ⟨h.1, h.2.1, arrOfT_moved hvm h.2.2.1, h.2.2.2.moved hvm⟩)⟩, r4, r5⟩
theorem va_at_kept {D : va_G} {cl : List vw_C} {q : Nat × va_E} {H H1 : Heap} (h : va_at D cl q H) (e : H1[q.1]? = H[q.1]?) : va_at D cl q H1 := by
  obtain ⟨a, x | o⟩ := q
  · show H1[a]? = _
    rw [e]; exact h
  · obtain ⟨r, h1, h2⟩ := h
    exact ⟨r, h1, h2.kept e⟩
/-- new X(); throw: nothing catches it here -/
theorem ab_throw {ik ic : Nat} {E : String} (hd0 : decode (ab_bc me) pc = .ok (.new ik, 3)) (hd3 : decode (ab_bc me) (pc + 3) = .ok (.dup, 1)) (hd4 : decode (ab_bc me) (pc + 4) = .ok (.invokespecial ic, 3)) (hd7 : decode (ab_bc me) (pc + 7) = .ok (.athrow, 1)) (hf : Bundle.fit E = true) (hhh : ab_hh me = []) (h1 : Cond.classLink me.1.cls ik E ∈ ab_T) (h2 : Cond.initialized E ∈ ab_T)
    (h3 : ∀ t ∈ vx_at0 me.1.cls ic E ["java/lang/RuntimeException", "java/lang/Exception"], t ∈ ab_T ∨ (t ∈ lw_tbl ∧ ab_wk t = true ∧ t.onTables = true)) (h4 : ∀ t ∈ Cond.classLink me.1.cls ik E :: Cond.initialized E :: vx_at0 me.1.cls ic E ["java/lang/RuntimeException", "java/lang/Exception"], vx_ot t = true) (hdp : 8 ≤ d) (hst : (st.map fun v => v.category).sum ≤ 16)
    (hres : res = (.inr E, (M.1, M.2.1, M.2.2.1, M.2.2.2.1, M.2.2.2.2.1 + 1, M.2.2.2.2.2 + 6))) : ab_E w d me pc ls st M res := by
  subst hres
  intro p e R s m args below meth c C n0 dom0 ad0 cA0 c0 s0 ad cA dom H locs lsA cells slots At
  have C1 := C
  obtain ⟨hx, hb, hml, -, hown, hts, hlk, hnm, htb, hN, hEn, hFr, hLo, hTr⟩ := C1
  have hK := hEn.1
  have A1 := At
  obtain ⟨a1, a2, a3, a4, a5, a6, a7, a8, a9, a10, a11⟩ := A1
  have hsum := ab_sum_cat ad st
  refine vx_throw0 (A := ab_A w) hx hb hTr hown hf (by decide +kernel) (hts _ h1) (hts _ h2) (fun t ht => ?_) h4 hEn.2.2.2.1 hEn.2.2.2.2.1 a2 (a3.1.trans hml.symm) hd0 hd3 hd4 hd7 (fun x hx => by rw [htb, hhh] at hx; cases hx) (by simp; omega) (by rw [hsum]; simp; omega) (by simp at a10; omega) (by simp at a11; omega) hlk (fun t hvm hsz hk => ?_) a2.2.2 (by simp; omega) (by simp; omega)
  · rcases h3 t ht with h | ⟨g1, g2, g3⟩
    · exact hts _ h
    · exact va_Nw.use g3 (hEn.2.2.2.2.2.1 t g1 g2)
  · refine ⟨⟨ad, cA, dom, rfl, a6, ?_⟩, ?_⟩
    · obtain ⟨r1, r2, r3, r4, r5⟩ := a1
      refine ⟨?_, r2, fun j hj => ⟨(r3 j hj).1, (r3 j hj).2.imp id (fun h => ⟨h.1, h.2.1, arrOfT_moved hvm h.2.2.1, h.2.2.2.moved hvm⟩)⟩, r4, r5⟩
      intro k q hq
      exact va_at_kept (r1 k q hq) (hk _ (r1 k q hq).lt)
    · refine ⟨Nat.le_trans a2.1 hsz, fun q hq hA => ?_⟩
      rw [hk q (Nat.lt_of_lt_of_le hq a2.1)]
      exact a2.2.1 q hq hA
end ABQ
