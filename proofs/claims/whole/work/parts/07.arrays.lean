/-! the rules of arrays -/
section ABA
variable {w : ab_Wd} {d : Nat} {me : ab_Me} {pc : Nat} {ls st : List Value} {M : ab_M} {res : ab_Re}
theorem ab_iald {i n : Nat} {x : Int32} (hd : decode (ab_bc me) pc = .ok (.iaload, 1)) (hi : ab_cd i = 16) (hl : ab_ln i = n) (hin : vp_in x n) (kk : ab_E w d me (pc + 1) ls (.int (M.1 i x.toNatClampNeg) :: st) M res) : ab_E w d me pc ls (.int x :: .ref i :: st) M res := by
  intro p e R s m args below meth c C n0 dom0 ad0 cA0 c0 s0 ad cA dom H locs lsA cells slots At
  have C1 := C
  obtain ⟨hx, hb, -, -, hown, hts, -, hnm, -, -, ⟨hK, -⟩, -⟩ := C1
  obtain ⟨a1, a2, a3, a4, a5, a6, a7, a8, a9, a10, a11⟩ := At
  subst hl
  obtain ⟨o1, o3⟩ := List.forall_mem_cons.mp (List.forall_mem_cons.mp a5).2
  obtain ⟨q, hq⟩ := ab_in_dom o1 (by omega)
  have he := ab_ws_at (ad := ad) (cA := cA) (M := M) hq
  rw [ab_enc_a (by omega), ab_con_i (by omega)] at he
  have hr := (a1.2.2.1 i (List.mem_of_getElem? hq)).2.resolve_left (by omega)
  have hty : ab_aty (ab_cd i) = .int := by rw [hi]; rfl
  rw [hty] at hr
  have hK1 := ab_K1 hK hr.2.2.1 hr.2.2.2
  refine va_iald hx hb hK1 a1.1 q 0 he rfl hin hd ?_
  exact kk p e R s m args below meth c C n0 dom0 ad0 cA0 c0 s0 ad cA dom H locs lsA cells slots ⟨a1, a2, a3, a4, List.forall_mem_cons.mpr ⟨trivial, o3⟩, a6, a7, a8, a9, a10, a11⟩
theorem ab_bald {i n : Nat} {x : Int32} (hd : decode (ab_bc me) pc = .ok (.baload, 1)) (hi : ab_cd i = 17) (hl : ab_ln i = n) (hin : vp_in x n) (kk : ab_E w d me (pc + 1) ls (.int (M.1 i x.toNatClampNeg) :: st) M res) : ab_E w d me pc ls (.int x :: .ref i :: st) M res := by
  intro p e R s m args below meth c C n0 dom0 ad0 cA0 c0 s0 ad cA dom H locs lsA cells slots At
  have C1 := C
  obtain ⟨hx, hb, -, -, hown, hts, -, hnm, -, -, ⟨hK, -⟩, -⟩ := C1
  obtain ⟨a1, a2, a3, a4, a5, a6, a7, a8, a9, a10, a11⟩ := At
  subst hl
  obtain ⟨o1, o3⟩ := List.forall_mem_cons.mp (List.forall_mem_cons.mp a5).2
  obtain ⟨q, hq⟩ := ab_in_dom o1 (by omega)
  have he := ab_ws_at (ad := ad) (cA := cA) (M := M) hq
  rw [ab_enc_a (by omega), ab_con_i (by omega)] at he
  have hr := (a1.2.2.1 i (List.mem_of_getElem? hq)).2.resolve_left (by omega)
  have hty : ab_aty (ab_cd i) = .byte := by rw [hi]; rfl
  rw [hty] at hr
  have hK1 := ab_K1 hK hr.2.2.1 hr.2.2.2
  refine va_bald hx hb hK1 a1.1 q 0 he rfl hin hd ?_
  exact kk p e R s m args below meth c C n0 dom0 ad0 cA0 c0 s0 ad cA dom H locs lsA cells slots ⟨a1, a2, a3, a4, List.forall_mem_cons.mpr ⟨trivial, o3⟩, a6, a7, a8, a9, a10, a11⟩
theorem ab_zald {i n : Nat} {x : Int32} (hd : decode (ab_bc me) pc = .ok (.baload, 1)) (hi : ab_cd i = 18) (hl : ab_ln i = n) (hin : vp_in x n) (kk : ab_E w d me (pc + 1) ls (.int (M.1 i x.toNatClampNeg) :: st) M res) : ab_E w d me pc ls (.int x :: .ref i :: st) M res := by
  intro p e R s m args below meth c C n0 dom0 ad0 cA0 c0 s0 ad cA dom H locs lsA cells slots At
  have C1 := C
  obtain ⟨hx, hb, -, -, hown, hts, -, hnm, -, -, ⟨hK, -⟩, -⟩ := C1
  obtain ⟨a1, a2, a3, a4, a5, a6, a7, a8, a9, a10, a11⟩ := At
  subst hl
  obtain ⟨o1, o3⟩ := List.forall_mem_cons.mp (List.forall_mem_cons.mp a5).2
  obtain ⟨q, hq⟩ := ab_in_dom o1 (by omega)
  have he := ab_ws_at (ad := ad) (cA := cA) (M := M) hq
  rw [ab_enc_a (by omega), ab_con_i (by omega)] at he
  have hr := (a1.2.2.1 i (List.mem_of_getElem? hq)).2.resolve_left (by omega)
  have hty : ab_aty (ab_cd i) = .boolean := by rw [hi]; rfl
  rw [hty] at hr
  have hK1 := ab_K1 hK hr.2.2.1 hr.2.2.2
  refine va_zald hx hb hK1 a1.1 q 0 he rfl hin hd ?_
  exact kk p e R s m args below meth c C n0 dom0 ad0 cA0 c0 s0 ad cA dom H locs lsA cells slots ⟨a1, a2, a3, a4, List.forall_mem_cons.mpr ⟨trivial, o3⟩, a6, a7, a8, a9, a10, a11⟩
theorem ab_lald {i n : Nat} {x : Int32} (hd : decode (ab_bc me) pc = .ok (.laload, 1)) (hi : ab_cd i = 19) (hl : ab_ln i = n) (hin : vp_in x n) (kk : ab_E w d me (pc + 1) ls (.long (M.2.1 i x.toNatClampNeg) :: st) M res) : ab_E w d me pc ls (.int x :: .ref i :: st) M res := by
  intro p e R s m args below meth c C n0 dom0 ad0 cA0 c0 s0 ad cA dom H locs lsA cells slots At
  have C1 := C
  obtain ⟨hx, hb, -, -, hown, hts, -, hnm, -, -, ⟨hK, -⟩, -⟩ := C1
  obtain ⟨a1, a2, a3, a4, a5, a6, a7, a8, a9, a10, a11⟩ := At
  subst hl
  obtain ⟨o1, o3⟩ := List.forall_mem_cons.mp (List.forall_mem_cons.mp a5).2
  obtain ⟨q, hq⟩ := ab_in_dom o1 (by omega)
  have he := ab_ws_at (ad := ad) (cA := cA) (M := M) hq
  rw [ab_enc_a (by omega), ab_con_l hi] at he
  have hr := (a1.2.2.1 i (List.mem_of_getElem? hq)).2.resolve_left (by omega)
  have hty : ab_aty (ab_cd i) = .long := by rw [hi]; rfl
  rw [hty] at hr
  have hK1 := ab_K1 hK hr.2.2.1 hr.2.2.2
  refine va_lald hx hb hK1 a1.1 q 0 he rfl hin hd ?_
  exact kk p e R s m args below meth c C n0 dom0 ad0 cA0 c0 s0 ad cA dom H locs lsA cells slots ⟨a1, a2, a3, a4, List.forall_mem_cons.mpr ⟨trivial, o3⟩, a6, a7, a8, a9, a10, a11⟩
theorem ab_aald {i n : Nat} {x : Int32} {j : Nat} (hd : decode (ab_bc me) pc = .ok (.aaload, 1)) (hi : ab_cd i = 20) (hl : ab_ln i = n) (hin : vp_in x n) (hj : M.2.2.1 i x.toNatClampNeg = .ref j) (kk : ab_E w d me (pc + 1) ls (.ref j :: st) M res) : ab_E w d me pc ls (.int x :: .ref i :: st) M res := by
  intro p e R s m args below meth c C n0 dom0 ad0 cA0 c0 s0 ad cA dom H locs lsA cells slots At
  have C1 := C
  obtain ⟨hx, hb, -, -, hown, hts, -, hnm, -, -, ⟨hK, -⟩, -⟩ := C1
  obtain ⟨a1, a2, a3, a4, a5, a6, a7, a8, a9, a10, a11⟩ := At
  subst hl
  obtain ⟨o1, o3⟩ := List.forall_mem_cons.mp (List.forall_mem_cons.mp a5).2
  obtain ⟨q, hq⟩ := ab_in_dom o1 (by omega)
  have he := ab_ws_at (ad := ad) (cA := cA) (M := M) hq
  rw [ab_enc_a (by omega), ab_con_q hi] at he
  have hr := (a1.2.2.1 i (List.mem_of_getElem? hq)).2.resolve_left (by omega)
  have hty : ab_aty (ab_cd i) = (.object "java/lang/String") := by rw [hi]; rfl
  rw [hty] at hr
  have hK1 := ab_K1 hK hr.2.2.1 hr.2.2.2
  have ho : ab_ok dom M.2.2.2.1 (.ref j) := by rw [← hj]; exact a1.2.2.2.1 i (List.mem_of_getElem? hq) _
  refine va_aldq hx hb hK1 a1.1 q 0 he rfl hin hd ?_
  rw [hj]
  exact kk p e R s m args below meth c C n0 dom0 ad0 cA0 c0 s0 ad cA dom H locs lsA cells slots ⟨a1, a2, a3, a4, List.forall_mem_cons.mpr ⟨ho, o3⟩, a6, a7, a8, a9, a10, a11⟩
theorem ab_iast {i n : Nat} {x : Int32} {y : Int32} (hd : decode (ab_bc me) pc = .ok (.iastore, 1)) (hi : ab_cd i = 16) (hl : ab_ln i = n) (hin : vp_in x n) (kk : ab_E w d me (pc + 1) ls st (ab_up M.1 i x.toNatClampNeg y, M.2) res) : ab_E w d me pc ls (.int y :: .int x :: .ref i :: st) M res := by
  intro p e R s m args below meth c C n0 dom0 ad0 cA0 c0 s0 ad cA dom H locs lsA cells slots At
  have C1 := C
  obtain ⟨hx, hb, -, -, hown, hts, -, hnm, -, -, ⟨hK, -⟩, -⟩ := C1
  obtain ⟨a1, a2, a3, a4, a5, a6, a7, a8, a9, a10, a11⟩ := At
  subst hl
  obtain ⟨o1, o3⟩ := List.forall_mem_cons.mp (List.forall_mem_cons.mp (List.forall_mem_cons.mp a5).2).2
  obtain ⟨q, hq⟩ := ab_in_dom o1 (by omega)
  have he := ab_ws_at (ad := ad) (cA := cA) (M := M) hq
  rw [ab_enc_a (by omega), ab_con_i (by omega)] at he
  have hr := (a1.2.2.1 i (List.mem_of_getElem? hq)).2.resolve_left (by omega)
  have hty : ab_aty (ab_cd i) = .int := by rw [hi]; rfl
  rw [hty] at hr
  have hK1 := ab_K1 hK hr.2.2.1 hr.2.2.2
  refine va_iast hx hb hK1 a1.1 a1.2.1 a2 q 0 he rfl hin hd (fun H1 locs1 hP hD hS => ?_)
  refine kk p e R s m args below meth c C n0 dom0 ad0 cA0 c0 s0 ad cA dom H1 locs1 lsA cells slots ⟨ab_Rel_set a1 hq ?_ (fun j hj => by simp [ab_up, hj]) (fun j hj => rfl) (fun j hj => rfl) rfl (fun k => a1.2.2.2.1 i (List.mem_of_getElem? hq) k) hP hD, hS, a3, a4, o3, a6, a7, a8, a9, a10, a11⟩
  rw [ab_enc_a (by omega), ab_con_i (by omega)]
  simp [ab_up]
theorem ab_bast {i n : Nat} {x : Int32} {y : Int32} (hd : decode (ab_bc me) pc = .ok (.bastore, 1)) (hi : ab_cd i = 17) (hl : ab_ln i = n) (hin : vp_in x n) (kk : ab_E w d me (pc + 1) ls st (ab_up M.1 i x.toNatClampNeg (vp_nar .byte y), M.2) res) : ab_E w d me pc ls (.int y :: .int x :: .ref i :: st) M res := by
  intro p e R s m args below meth c C n0 dom0 ad0 cA0 c0 s0 ad cA dom H locs lsA cells slots At
  have C1 := C
  obtain ⟨hx, hb, -, -, hown, hts, -, hnm, -, -, ⟨hK, -⟩, -⟩ := C1
  obtain ⟨a1, a2, a3, a4, a5, a6, a7, a8, a9, a10, a11⟩ := At
  subst hl
  obtain ⟨o1, o3⟩ := List.forall_mem_cons.mp (List.forall_mem_cons.mp (List.forall_mem_cons.mp a5).2).2
  obtain ⟨q, hq⟩ := ab_in_dom o1 (by omega)
  have he := ab_ws_at (ad := ad) (cA := cA) (M := M) hq
  rw [ab_enc_a (by omega), ab_con_i (by omega)] at he
  have hr := (a1.2.2.1 i (List.mem_of_getElem? hq)).2.resolve_left (by omega)
  have hty : ab_aty (ab_cd i) = .byte := by rw [hi]; rfl
  rw [hty] at hr
  have hK1 := ab_K1 hK hr.2.2.1 hr.2.2.2
  refine va_bast hx hb hK1 a1.1 a1.2.1 a2 q 0 he rfl hin hd (fun H1 locs1 hP hD hS => ?_)
  refine kk p e R s m args below meth c C n0 dom0 ad0 cA0 c0 s0 ad cA dom H1 locs1 lsA cells slots ⟨ab_Rel_set a1 hq ?_ (fun j hj => by simp [ab_up, hj]) (fun j hj => rfl) (fun j hj => rfl) rfl (fun k => a1.2.2.2.1 i (List.mem_of_getElem? hq) k) hP hD, hS, a3, a4, o3, a6, a7, a8, a9, a10, a11⟩
  rw [ab_enc_a (by omega), ab_con_i (by omega)]
  simp [ab_up]
theorem ab_zast {i n : Nat} {x : Int32} {y : Int32} (hd : decode (ab_bc me) pc = .ok (.bastore, 1)) (hi : ab_cd i = 18) (hl : ab_ln i = n) (hin : vp_in x n) (kk : ab_E w d me (pc + 1) ls st (ab_up M.1 i x.toNatClampNeg (vp_nar .boolean y), M.2) res) : ab_E w d me pc ls (.int y :: .int x :: .ref i :: st) M res := by
  intro p e R s m args below meth c C n0 dom0 ad0 cA0 c0 s0 ad cA dom H locs lsA cells slots At
  have C1 := C
  obtain ⟨hx, hb, -, -, hown, hts, -, hnm, -, -, ⟨hK, -⟩, -⟩ := C1
  obtain ⟨a1, a2, a3, a4, a5, a6, a7, a8, a9, a10, a11⟩ := At
  subst hl
  obtain ⟨o1, o3⟩ := List.forall_mem_cons.mp (List.forall_mem_cons.mp (List.forall_mem_cons.mp a5).2).2
  obtain ⟨q, hq⟩ := ab_in_dom o1 (by omega)
  have he := ab_ws_at (ad := ad) (cA := cA) (M := M) hq
  rw [ab_enc_a (by omega), ab_con_i (by omega)] at he
  have hr := (a1.2.2.1 i (List.mem_of_getElem? hq)).2.resolve_left (by omega)
  have hty : ab_aty (ab_cd i) = .boolean := by rw [hi]; rfl
  rw [hty] at hr
  have hK1 := ab_K1 hK hr.2.2.1 hr.2.2.2
  refine va_zast hx hb hK1 a1.1 a1.2.1 a2 q 0 he rfl hin hd (fun H1 locs1 hP hD hS => ?_)
  refine kk p e R s m args below meth c C n0 dom0 ad0 cA0 c0 s0 ad cA dom H1 locs1 lsA cells slots ⟨ab_Rel_set a1 hq ?_ (fun j hj => by simp [ab_up, hj]) (fun j hj => rfl) (fun j hj => rfl) rfl (fun k => a1.2.2.2.1 i (List.mem_of_getElem? hq) k) hP hD, hS, a3, a4, o3, a6, a7, a8, a9, a10, a11⟩
  rw [ab_enc_a (by omega), ab_con_i (by omega)]
  simp [ab_up]
theorem ab_last {i n : Nat} {x : Int32} {y : Int64} (hd : decode (ab_bc me) pc = .ok (.lastore, 1)) (hi : ab_cd i = 19) (hl : ab_ln i = n) (hin : vp_in x n) (kk : ab_E w d me (pc + 1) ls st (M.1, ab_upL M.2.1 i x.toNatClampNeg y, M.2.2) res) : ab_E w d me pc ls (.long y :: .int x :: .ref i :: st) M res := by
  intro p e R s m args below meth c C n0 dom0 ad0 cA0 c0 s0 ad cA dom H locs lsA cells slots At
  have C1 := C
  obtain ⟨hx, hb, -, -, hown, hts, -, hnm, -, -, ⟨hK, -⟩, -⟩ := C1
  obtain ⟨a1, a2, a3, a4, a5, a6, a7, a8, a9, a10, a11⟩ := At
  subst hl
  obtain ⟨o1, o3⟩ := List.forall_mem_cons.mp (List.forall_mem_cons.mp (List.forall_mem_cons.mp a5).2).2
  obtain ⟨q, hq⟩ := ab_in_dom o1 (by omega)
  have he := ab_ws_at (ad := ad) (cA := cA) (M := M) hq
  rw [ab_enc_a (by omega), ab_con_l hi] at he
  have hr := (a1.2.2.1 i (List.mem_of_getElem? hq)).2.resolve_left (by omega)
  have hty : ab_aty (ab_cd i) = .long := by rw [hi]; rfl
  rw [hty] at hr
  have hK1 := ab_K1 hK hr.2.2.1 hr.2.2.2
  refine va_last hx hb hK1 a1.1 a1.2.1 a2 q 0 he rfl hin hd (fun H1 locs1 hP hD hS => ?_)
  refine kk p e R s m args below meth c C n0 dom0 ad0 cA0 c0 s0 ad cA dom H1 locs1 lsA cells slots ⟨ab_Rel_set a1 hq ?_ (fun j hj => rfl) (fun j hj => by simp [ab_upL, hj]) (fun j hj => rfl) rfl (fun k => a1.2.2.2.1 i (List.mem_of_getElem? hq) k) hP hD, hS, a3, a4, o3, a6, a7, a8, a9, a10, a11⟩
  rw [ab_enc_a (by omega), ab_con_l hi]
  simp [ab_upL]
theorem ab_alen {i : Nat} {v : Int32} (hd : decode (ab_bc me) pc = .ok (.arraylength, 1)) (h1 : 12 ≤ ab_cd i) (h2 : ab_cd i < 32) (hv : Int32.ofNat (ab_ln i) = v) (kk : ab_E w d me (pc + 1) ls (.int v :: st) M res) : ab_E w d me pc ls (.ref i :: st) M res := by
  intro p e R s m args below meth c C n0 dom0 ad0 cA0 c0 s0 ad cA dom H locs lsA cells slots At
  have C1 := C
  obtain ⟨hx, hb, -, -, hown, hts, -, hnm, -, -, ⟨hK, -⟩, -⟩ := C1
  obtain ⟨a1, a2, a3, a4, a5, a6, a7, a8, a9, a10, a11⟩ := At
  obtain ⟨o1, o3⟩ := List.forall_mem_cons.mp a5
  obtain ⟨q, hq⟩ := ab_in_dom o1 (by omega)
  have he := ab_ws_at (ad := ad) (cA := cA) (M := M) hq
  rw [ab_enc_a (by omega)] at he
  have hr := (a1.2.2.1 i (List.mem_of_getElem? hq)).2.resolve_left (by omega)
  have hK1 := ab_K1 hK hr.2.2.1 hr.2.2.2
  refine va_alen hx hb hK1 a1.1 q 0 he rfl hv hd ?_
  exact kk p e R s m args below meth c C n0 dom0 ad0 cA0 c0 s0 ad cA dom H locs lsA cells slots ⟨a1, a2, a3, a4, List.forall_mem_cons.mpr ⟨trivial, o3⟩, a6, a7, a8, a9, a10, a11⟩
theorem ab_sald {x : Int32} (hd : decode (ab_bc me) pc = .ok (.iaload, 1)) (hin : vp_in x w.2.2.2.2.1) (kk : ab_E w d me (pc + 1) ls (.int (w.2.2.2.2.2.1 x.toNatClampNeg) :: st) M res) : ab_E w d me pc ls (.int x :: .ref 34 :: st) M res := by
  intro p e R s m args below meth c C n0 dom0 ad0 cA0 c0 s0 ad cA dom H locs lsA cells slots At
  have C1 := C
  obtain ⟨hx, hb, -, -, hown, hts, -, hnm, -, hN, ⟨hK, hX, hbl, -⟩, -⟩ := C1
  obtain ⟨a1, a2, a3, a4, a5, a6, a7, a8, a9, a10, a11⟩ := At
  have e34 : ab_v ad (.ref 34) = .ref w.2.2.2.1 := by show Value.ref (ad 34) = _; rw [a1.2.2.2.2.2.2]
  show W p w.1 e R s m args below meth c H locs cells slots _ (F0 m pc lsA (.int x :: ab_v ad (.ref 34) :: st.map (ab_v ad)))
  rw [e34]
  refine va_sld hx hb hX (Nat.lt_of_lt_of_le hbl hN) (Nat.not_le.mpr hbl) a2 hin hd ?_
  exact kk p e R s m args below meth c C n0 dom0 ad0 cA0 c0 s0 ad cA dom H locs lsA cells slots ⟨a1, a2, a3, a4, List.forall_mem_cons.mpr ⟨trivial, (List.forall_mem_cons.mp (List.forall_mem_cons.mp a5).2).2⟩, a6, a7, a8, a9, a10, a11⟩
theorem ab_salen (hd : decode (ab_bc me) pc = .ok (.arraylength, 1)) (kk : ab_E w d me (pc + 1) ls (.int (nI w.2.2.2.2.1) :: st) M res) : ab_E w d me pc ls (.ref 34 :: st) M res := by
  intro p e R s m args below meth c C n0 dom0 ad0 cA0 c0 s0 ad cA dom H locs lsA cells slots At
  have C1 := C
  obtain ⟨hx, hb, -, -, hown, hts, -, hnm, -, hN, ⟨hK, hX, hbl, -⟩, -⟩ := C1
  obtain ⟨a1, a2, a3, a4, a5, a6, a7, a8, a9, a10, a11⟩ := At
  have e34 : ab_v ad (.ref 34) = .ref w.2.2.2.1 := by show Value.ref (ad 34) = _; rw [a1.2.2.2.2.2.2]
  show W p w.1 e R s m args below meth c H locs cells slots _ (F0 m pc lsA (ab_v ad (.ref 34) :: st.map (ab_v ad)))
  rw [e34]
  refine va_slen hx hb hX (Nat.lt_of_lt_of_le hbl hN) (Nat.not_le.mpr hbl) a2 hd ?_
  exact kk p e R s m args below meth c C n0 dom0 ad0 cA0 c0 s0 ad cA dom H locs lsA cells slots ⟨a1, a2, a3, a4, List.forall_mem_cons.mpr ⟨trivial, (List.forall_mem_cons.mp a5).2⟩, a6, a7, a8, a9, a10, a11⟩
theorem ab_min {idx : Nat} {x y : Int32} (hd : decode (ab_bc me) pc = .ok (.invokestatic idx, 3)) (h1 : Cond.methodLink me.1.cls idx Lib.Math.min.name ∈ ab_T) (h2 : Cond.static Lib.Math.min.name ∈ ab_T) (h3 : Cond.initialized "java/lang/Math" ∈ ab_T) (h4 : Cond.code Lib.Math.min.name Lib.Math.min.code 2 (some .int) ∈ ab_T) (hdp : 1 ≤ d) (hst : (st.map fun v => v.category).sum ≤ 40) (hc9 : M.2.2.2.2.1 ≤ res.2.2.2.2.2.1) (hs9 : M.2.2.2.2.2 ≤ res.2.2.2.2.2.2) (kk : ab_E w d me (pc + 3) ls (.int (if y < x then y else x) :: st) M res) : ab_E w d me pc ls (.int y :: .int x :: st) M res := by
  intro p e R s m args below meth c C n0 dom0 ad0 cA0 c0 s0 ad cA dom H locs lsA cells slots At
  have C1 := C
  obtain ⟨hx, hb, hml, -, hown, hts, -, hnm, -, hN, -, hF, hL, -⟩ := C1
  obtain ⟨a1, a2, a3, a4, a5, a6, a7, a8, a9, a10, a11⟩ := At
  have hsum : ((st.map (ab_v ad)).map fun v => v.category).sum = (st.map fun v => v.category).sum := by
    rw [List.map_map]; congr 1; apply List.map_congr_left; intro v _; exact ab_v_cat ad v
  refine va_mmin hx hb (hml.trans a3.1.symm) hown (hts _ h1) (hts _ h2) (hts _ h3) (hts _ h4) (by omega) (by rw [hsum]; omega) (by omega) (by omega) hd ?_
  exact kk p e R s m args below meth c C n0 dom0 ad0 cA0 c0 s0 ad cA dom H locs lsA cells slots ⟨a1, a2, a3, a4, List.forall_mem_cons.mpr ⟨trivial, (List.forall_mem_cons.mp (List.forall_mem_cons.mp a5).2).2⟩, a6, a7, a8, a9, a10, a11⟩
theorem ab_max {idx : Nat} {x y : Int32} (hd : decode (ab_bc me) pc = .ok (.invokestatic idx, 3)) (h1 : Cond.methodLink me.1.cls idx Lib.Math.max.name ∈ ab_T) (h2 : Cond.static Lib.Math.max.name ∈ ab_T) (h3 : Cond.initialized "java/lang/Math" ∈ ab_T) (h4 : Cond.code Lib.Math.max.name Lib.Math.max.code 2 (some .int) ∈ ab_T) (hdp : 1 ≤ d) (hst : (st.map fun v => v.category).sum ≤ 40) (hc9 : M.2.2.2.2.1 ≤ res.2.2.2.2.2.1) (hs9 : M.2.2.2.2.2 ≤ res.2.2.2.2.2.2) (kk : ab_E w d me (pc + 3) ls (.int (if x < y then y else x) :: st) M res) : ab_E w d me pc ls (.int y :: .int x :: st) M res := by
  intro p e R s m args below meth c C n0 dom0 ad0 cA0 c0 s0 ad cA dom H locs lsA cells slots At
  have C1 := C
  obtain ⟨hx, hb, hml, -, hown, hts, -, hnm, -, hN, -, hF, hL, -⟩ := C1
  obtain ⟨a1, a2, a3, a4, a5, a6, a7, a8, a9, a10, a11⟩ := At
  have hsum : ((st.map (ab_v ad)).map fun v => v.category).sum = (st.map fun v => v.category).sum := by
    rw [List.map_map]; congr 1; apply List.map_congr_left; intro v _; exact ab_v_cat ad v
  refine va_mmax hx hb (hml.trans a3.1.symm) hown (hts _ h1) (hts _ h2) (hts _ h3) (hts _ h4) (by omega) (by rw [hsum]; omega) (by omega) (by omega) hd ?_
  exact kk p e R s m args below meth c C n0 dom0 ad0 cA0 c0 s0 ad cA dom H locs lsA cells slots ⟨a1, a2, a3, a4, List.forall_mem_cons.mpr ⟨trivial, (List.forall_mem_cons.mp (List.forall_mem_cons.mp a5).2).2⟩, a6, a7, a8, a9, a10, a11⟩
end ABA
