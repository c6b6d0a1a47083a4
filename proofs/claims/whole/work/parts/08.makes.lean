/-! the rules that make cells, and the ends -/
def ab_id (n c len : Nat) : Nat := (n + 1) * 2097152 + len * 64 + c
theorem ab_id_cd {n c len : Nat} (hc : c < 64) : ab_cd (ab_id n c len) = c := by unfold ab_cd ab_id; omega
theorem ab_id_ln {n c len : Nat} (hc : c < 64) (hl : len < 32768) : ab_ln (ab_id n c len) = len := by unfold ab_ln ab_id; omega
theorem ab_id_bl {n c len : Nat} (hc : c < 64) (hl : len < 32768) : ab_bl (ab_id n c len) = n + 1 := by unfold ab_bl ab_id; omega
def ab_upA {α : Type} (ad : Nat → α) (i : Nat) (q : α) : Nat → α := fun j => if j = i then q else ad j
/-- the memory with a new cell, all zero -/
def ab_mk (M : ab_M) (i sz : Nat) : ab_M := (ab_row M.1 i (fun _ => 0), ab_row M.2.1 i (fun _ => 0), ab_row M.2.2.1 i (fun _ => .null), M.2.2.2.1 + 1, M.2.2.2.2.1 + 1, M.2.2.2.2.2 + sz)
theorem ab_upA_ne {α : Type} {ad : Nat → α} {i j n : Nat} {q : α} (hi : ab_bl i = n + 1) (hj : ab_bl j ≤ n) : ab_upA ad i q j = ad j := by
  unfold ab_upA
  rw [if_neg]
  intro h; subst h; omega
theorem ab_v_upA {ad : Nat → Nat} {i n q : Nat} {dom : List Nat} {v : Value} (hi : ab_bl i = n + 1) (h : ab_ok dom n v) : ab_v (ab_upA ad i q) v = ab_v ad v := by
  cases v with
  | ref j => show Value.ref _ = Value.ref _; rw [ab_upA_ne hi h.2]
  | _ => rfl
theorem ab_q_upA {ad : Nat → Nat} {i n q : Nat} {dom : List Nat} {v : Value} (hi : ab_bl i = n + 1) (h : ab_ok dom n v) : ab_q (ab_upA ad i q) v = ab_q ad v := by
  cases v with
  | ref j => show some _ = some _; rw [ab_upA_ne hi h.2]
  | _ => rfl
theorem ab_ok_mono {dom dom' : List Nat} {n n' : Nat} {v : Value} (hd : ∀ i ∈ dom, i ∈ dom') (hn : n ≤ n') (h : ab_ok dom n v) : ab_ok dom' n' v := by
  cases v with
  | ref j => exact ⟨h.1.imp (hd j) id, Nat.le_trans h.2 hn⟩
  | _ => trivial
theorem ab_row_ne {α : Type} {f : Nat → Nat → α} {i j : Nat} {r : Nat → α} (h : j ≠ i) : ab_row f i r j = f j := by unfold ab_row; rw [if_neg h]
theorem ab_row_eq {α : Type} {f : Nat → Nat → α} {i : Nat} {r : Nat → α} : ab_row f i r i = r := by unfold ab_row; rw [if_pos rfl]
theorem ab_ws_new {w : ab_Wd} {ad : Nat → Nat} {cA : Nat → ClassId} {dom : List Nat} {M : ab_M} {s : State} {H : Heap} {i sz q : Nat} {c9 : ClassId} (hR : ab_Rel w ad cA dom M s H) (hi : ab_bl i = M.2.2.2.1 + 1) : ab_ws (ab_upA ad i q) (ab_upA cA i c9) (dom ++ [i]) (ab_mk M i sz) = ab_ws ad cA dom M ++ [(q, ab_enc (ab_upA ad i q) (ab_upA cA i c9) (ab_mk M i sz) i)] := by
  obtain ⟨r1, r2, r3, r4, r5⟩ := hR
  unfold ab_ws
  rw [List.map_append]
  congr 1
  · apply List.map_congr_left
    intro j hj
    have hb := (r3 j hj).1
    have hne : j ≠ i := fun h => by subst h; omega
    rw [ab_upA_ne hi hb]
    congr 1
    unfold ab_enc
    split
    · congr 2
      apply List.map_congr_left
      intro k _
      unfold ab_fv ab_mk
      simp only [ab_row_ne hne]
      rw [ab_v_upA hi (r4 j hj k)]
    · unfold ab_con ab_mk
      simp only [ab_row_ne hne]
      rw [ab_upA_ne hi hb]
      have : (fun k => ab_q (ab_upA ad i q) (M.2.2.1 j k)) = fun k => ab_q ad (M.2.2.1 j k) := by funext k; exact ab_q_upA hi (r4 j hj k)
      rw [this]
  · simp [ab_upA]
theorem ab_df : ∀ c, c < 12 → ∀ j, j < ab_nf c → defaultValue (ab_ft c j) = if ab_kd (ab_ft c j) = 0 then .int 0 else .null := by decide +kernel
theorem ab_kd01 (t : FieldType) : ab_kd t = 0 ∨ ab_kd t = 1 := by unfold ab_kd; split <;> simp
/-- behind a new cell -/
theorem ab_At_new {w : ab_Wd} {me : ab_Me} {ls st : List Value} {M : ab_M} {res : ab_Re} {R : Room} {s : State} {n0 : Nat} {dom0 : List Nat} {ad0 : Nat → Nat} {cA0 : Nat → ClassId} {c0 s0 : Nat} {ad : Nat → Nat} {cA : Nat → ClassId} {dom : List Nat} {H H1 : Heap} {locs : List Loc} {lsA : Array Slot} {cells slots i sz q : Nat} {c9 : ClassId} {e9 : va_E}
    (At : ab_At w me ls st M res R s n0 dom0 ad0 cA0 c0 s0 ad cA dom H locs lsA cells slots) (hi : ab_bl i = M.2.2.2.1 + 1) (he : e9 = ab_enc (ab_upA ad i q) (ab_upA cA i c9) (ab_mk M i sz) i) (ha : ab_arr s (ab_upA cA i c9) i) (hP : va_P w.2.1 ab_cl (ab_ws ad cA dom M ++ [(q, e9)]) H1) (hD : va_D (ab_A w) (ab_ws ad cA dom M ++ [(q, e9)])) (hS : va_S (ab_A w) s.heap H1 locs) :
    ab_At w me ls (.ref i :: st) (ab_mk M i sz) res R s n0 dom0 ad0 cA0 c0 s0 (ab_upA ad i q) (ab_upA cA i c9) (dom ++ [i]) H1 locs lsA (cells + 1) (slots + sz) := by
  obtain ⟨a1, a2, a3, a4, a5, a6, a7, a8, a9, a10, a11⟩ := At
  rw [he, ← ab_ws_new a1 hi] at hP hD
  obtain ⟨r1, r2, r3, r4, r5⟩ := a1
  have hsub : ∀ j ∈ dom, j ∈ dom ++ [i] := fun j h => List.mem_append_left _ h
  have hup : ∀ v, ab_ok dom M.2.2.2.1 v → ab_ok (dom ++ [i]) (M.2.2.2.1 + 1) v := fun v h => ab_ok_mono hsub (Nat.le_succ _) h
  refine ⟨⟨hP, hD, ?_, ?_, ?_⟩, hS, ⟨a3.1, a3.2.1, a3.2.2.1, ?_⟩, fun v h => hup v (a4 v h), ?_, ⟨fun j h => hsub j (a6.1 j h), fun j h => ?_⟩, Nat.le_succ_of_le a7, by show M.2.2.2.2.1 + 1 = _; omega, by show M.2.2.2.2.2 + sz = _; omega, a10, a11⟩
  · intro j hj
    rcases List.mem_append.mp hj with h | h
    · refine ⟨Nat.le_succ_of_le (r3 j h).1, ?_⟩
      have h2 := (r3 j h).2
      unfold ab_arr at h2 ⊢
      rw [ab_upA_ne hi (r3 j h).1]
      exact h2
    · cases List.mem_singleton.mp h
      exact ⟨Nat.le_of_eq hi, ha⟩
  · intro j hj k
    show ab_ok _ _ (ab_row M.2.2.1 i (fun _ => .null) j k)
    by_cases hji : j = i
    · subst hji; rw [ab_row_eq]; trivial
    · rw [ab_row_ne hji]
      rcases List.mem_append.mp hj with h | h
      · exact hup _ (r4 j h k)
      · exact absurd (List.mem_singleton.mp h) hji
  · have z : ∀ j, ab_bl j = 0 → ab_upA ad i q j = ad j := fun j h => ab_upA_ne hi (by omega)
    refine ⟨fun j hj => ?_, fun j hj => ?_, ?_⟩
    · rw [z _ (by unfold ab_bl; omega)]; exact r5.1 j hj
    · rw [z _ (by unfold ab_bl; omega)]; exact r5.2.1 j hj
    · rw [z _ (by unfold ab_bl; omega)]; exact r5.2.2
  · intro j v hj hv
    rw [ab_v_upA hi (a4 v (List.mem_of_getElem? hj))]
    exact a3.2.2.2 j v hj hv
  · exact List.forall_mem_cons.mpr ⟨⟨Or.inl (List.mem_append_right _ (List.mem_singleton.mpr rfl)), Nat.le_of_eq hi⟩, fun v h => hup v (a5 v h)⟩
  · rw [ab_upA_ne hi (Nat.le_trans h a7), ab_upA_ne hi (Nat.le_trans h a7)]
    exact a6.2 j h
theorem ab_st_new {ad : Nat → Nat} {i n q : Nat} {dom : List Nat} {st : List Value} (hi : ab_bl i = n + 1) (h : ∀ v ∈ st, ab_ok dom n v) : (Value.ref i :: st).map (ab_v (ab_upA ad i q)) = .ref q :: st.map (ab_v ad) := by
  show Value.ref (ab_upA ad i q i) :: _ = _
  congr 1
  · unfold ab_upA; rw [if_pos rfl]
  · apply List.map_congr_left
    intro v hv
    exact ab_v_upA hi (h v hv)
section ABN
variable {w : ab_Wd} {d : Nat} {me : ab_Me} {pc : Nat} {ls st : List Value} {M : ab_M} {res : ab_Re}
theorem ab_new0 {idx ci i : Nat} (hi : ab_bl i = M.2.2.2.1 + 1) (hcd : ab_cd i = ci) (hd : decode (ab_bc me) pc = .ok (.new idx, 3)) (hc : ci < 12) (h1 : Cond.classLink me.1.cls idx (ab_R ci) ∈ ab_T) (h2 : Cond.instantiable (ab_R ci) (ab_nf ci) ∈ ab_T) (h3 : Cond.initialized (ab_R ci) ∈ ab_T) (hc9 : M.2.2.2.2.1 + 1 ≤ res.2.2.2.2.2.1) (hs9 : M.2.2.2.2.2 + ab_nf ci ≤ res.2.2.2.2.2.2)
    (kk : ab_E w d me (pc + 3) ls (.ref i :: st) (ab_mk M i (ab_nf ci)) res) : ab_E w d me pc ls st M res := by
  intro p e R s m args below meth c C n0 dom0 ad0 cA0 c0 s0 ad cA dom H locs lsA cells slots At
  have C1 := C
  obtain ⟨hx, hb, -, -, hown, hts, -, hnm, -, hN, ⟨hK, -⟩, -⟩ := C1
  have A1 := At
  obtain ⟨a1, a2, a3, a4, a5, a6, a7, a8, a9, a10, a11⟩ := A1
  have hfs : ∀ j, j < ab_nf ci → defaultValue (ab_ft ci j) = vp_V ((List.range (ab_nf ci)).map (ab_fv ad (ab_mk M i (ab_nf ci)) i)) j := by
    intro j hj
    have e1 : ((List.range (ab_nf ci)).map (ab_fv ad (ab_mk M i (ab_nf ci)) i))[j]? = some (ab_fv ad (ab_mk M i (ab_nf ci)) i j) := by rw [List.getElem?_map, List.getElem?_range hj]; rfl
    rw [ab_df ci hc j hj]
    unfold vp_V
    rw [List.getD_eq_getElem?_getD, e1]
    show _ = ab_fv ad (ab_mk M i (ab_nf ci)) i j
    rcases ab_kd01 (ab_ft ci j) with h | h
    · rw [if_pos h, ab_fv_i (by rw [hcd]; exact h)]
      show _ = Value.int (ab_row M.1 i (fun _ => 0) i j)
      rw [ab_row_eq]
    · rw [if_neg (by omega), ab_fv_r (by rw [hcd]; exact h)]
      show _ = ab_v ad (ab_row M.2.2.1 i (fun _ => .null) i j)
      rw [ab_row_eq]; rfl
  refine va_new (ci := ci) hx hb hts (ab_in _ hc) (ab_ft ci) (ab_ty _ hc) hown (hts _ h1) (hts _ h2) (hts _ h3) hK a1.1 a1.2.1 a2 (fun q hq => Nat.le_trans hN hq) (ab_cl_at _ hc) hfs (by omega) (by omega) hd (fun q H1 hP hD hS => ?_)
  have hst := ab_st_new (ad := ad) (q := q) hi a5
  rw [← hst]
  refine kk p e R s m args below meth c C n0 dom0 ad0 cA0 c0 s0 (ab_upA ad i q) (ab_upA cA i 0) (dom ++ [i]) H1 locs lsA _ _ (ab_At_new At hi ?_ (Or.inl (by omega)) hP hD hS)
  rw [ab_enc_o (by omega), hcd]
  congr 2
  apply List.map_congr_left
  intro k _
  rcases ab_kd01 (ab_ft (ab_cd i) k) with h | h
  · rw [ab_fv_i h, ab_fv_i h]
  · rw [ab_fv_r h, ab_fv_r h]
    show ab_v _ (ab_row M.2.2.1 i (fun _ => .null) i k) = ab_v _ (ab_row M.2.2.1 i (fun _ => .null) i k)
    rw [ab_row_eq]; rfl
theorem ab_iret {x : Int32} {ty : FieldType} (hd : decode (ab_bc me) pc = .ok (.ireturn, 1)) (hr : me.2.2.2 = some ty) (hn : narrow ty (.int x) = .int x) (hres : res = (.inl (some (.int x)), M)) : ab_E w d me pc ls [.int x] M res := by
  subst hres
  intro p e R s m args below meth c C n0 dom0 ad0 cA0 c0 s0 ad cA dom H locs lsA cells slots At
  obtain ⟨hx, hb, -, hrt, -, -, hlk, -⟩ := C
  obtain ⟨a1, a2, a3, a4, a5, a6, a7, a8, a9, a10, a11⟩ := At
  have e1 : M.2.2.2.2.1 - c0 = cells := by omega
  have e2 : M.2.2.2.2.2 - s0 = slots := by omega
  show W p w.1 e R s m args below meth c H locs cells slots (vx_MQ below _ _ args s (M.2.2.2.2.1 - c0) (M.2.2.2.2.2 - s0) (ab_A w)) (F0 m pc lsA [.int x])
  rw [e1, e2]
  refine vx_ret (W.zret (v := x) (ty := ty) hx hb (hrt.trans hr) hn (fun t ht hW => ?_) a2.2.2 hd hlk)
  refine ⟨⟨some (.int x), ad, cA, dom, rfl, rfl, a6, ?_, fun v hv => by cases hv; trivial⟩, a2.F ht⟩
  obtain ⟨r1, r2, r3, r4, r5⟩ := a1
  refine ⟨by rw [ht]; exact r1, r2, fun j hj => ⟨(r3 j hj).1, (r3 j hj).2.imp id (fun h => ⟨h.1, h.2.1, arrOfT_moved hW.alike h.2.2.1, h.2.2.2.moved hW.alike⟩)⟩, r4, r5⟩
theorem ab_lret {x : Int64} (hd : decode (ab_bc me) pc = .ok (.lreturn, 1)) (hr : me.2.2.2 = some .long) (hres : res = (.inl (some (.long x)), M)) : ab_E w d me pc ls [.long x] M res := by
  subst hres
  intro p e R s m args below meth c C n0 dom0 ad0 cA0 c0 s0 ad cA dom H locs lsA cells slots At
  obtain ⟨hx, hb, -, hrt, -, -, hlk, -⟩ := C
  obtain ⟨a1, a2, a3, a4, a5, a6, a7, a8, a9, a10, a11⟩ := At
  have e1 : M.2.2.2.2.1 - c0 = cells := by omega
  have e2 : M.2.2.2.2.2 - s0 = slots := by omega
  show W p w.1 e R s m args below meth c H locs cells slots (vx_MQ below _ _ args s (M.2.2.2.2.1 - c0) (M.2.2.2.2.2 - s0) (ab_A w)) (F0 m pc lsA [.long x])
  rw [e1, e2]
  refine vx_ret (W.lret (v := x) hx hb (hrt.trans hr) (fun t ht hW => ?_) a2.2.2 hd hlk)
  refine ⟨⟨some (.long x), ad, cA, dom, rfl, rfl, a6, ?_, fun v hv => by cases hv; trivial⟩, a2.F ht⟩
  obtain ⟨r1, r2, r3, r4, r5⟩ := a1
  refine ⟨by rw [ht]; exact r1, r2, fun j hj => ⟨(r3 j hj).1, (r3 j hj).2.imp id (fun h => ⟨h.1, h.2.1, arrOfT_moved hW.alike h.2.2.1, h.2.2.2.moved hW.alike⟩)⟩, r4, r5⟩
theorem ab_vret (hd : decode (ab_bc me) pc = .ok (.return_, 1)) (hr : me.2.2.2 = none) (hres : res = (.inl none, M)) : ab_E w d me pc ls [] M res := by
  subst hres
  intro p e R s m args below meth c C n0 dom0 ad0 cA0 c0 s0 ad cA dom H locs lsA cells slots At
  obtain ⟨hx, hb, -, hrt, -, -, hlk, -⟩ := C
  obtain ⟨a1, a2, a3, a4, a5, a6, a7, a8, a9, a10, a11⟩ := At
  have e1 : M.2.2.2.2.1 - c0 = cells := by omega
  have e2 : M.2.2.2.2.2 - s0 = slots := by omega
  show W p w.1 e R s m args below meth c H locs cells slots (vx_MQ below _ _ args s (M.2.2.2.2.1 - c0) (M.2.2.2.2.2 - s0) (ab_A w)) (F0 m pc lsA [])
  rw [e1, e2]
  refine vx_ret (W.vret hx hb (hrt.trans hr) (fun t ht hW => ?_) a2.2.2 hd hlk)
  refine ⟨⟨none, ad, cA, dom, rfl, rfl, a6, ?_, fun v hv => by cases hv⟩, a2.F ht⟩
  obtain ⟨r1, r2, r3, r4, r5⟩ := a1
  refine ⟨by rw [ht]; exact r1, r2, fun j hj => ⟨(r3 j hj).1, (r3 j hj).2.imp id (fun h => ⟨h.1, h.2.1, arrOfT_moved hW.alike h.2.2.1, h.2.2.2.moved hW.alike⟩)⟩, r4, r5⟩
end ABN
