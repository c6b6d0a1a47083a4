/-! the rules that read and write cells -/
def ab_up (f : Nat → Nat → Int32) (i k : Nat) (x : Int32) : Nat → Nat → Int32 := fun a => if a = i then upd (f i) k x else f a
def ab_upL (f : Nat → Nat → Int64) (i k : Nat) (x : Int64) : Nat → Nat → Int64 := fun a => if a = i then vp_updL (f i) k x else f a
def ab_upR (f : Nat → Nat → Value) (i k : Nat) (x : Value) : Nat → Nat → Value := fun a => if a = i then (fun j => if j = k then x else f i j) else f a
def ab_row {α : Type} (f : Nat → Nat → α) (i : Nat) (r : Nat → α) : Nat → Nat → α := fun a => if a = i then r else f a
def ab_kd (t : FieldType) : Nat := match t with
  | .int => 0
  | .boolean => 0
  | _ => 1
theorem ab_fv_i {ad : Nat → Nat} {M : ab_M} {i k : Nat} (h : ab_kd (ab_ft (ab_cd i) k) = 0) : ab_fv ad M i k = .int (M.1 i k) := by
  unfold ab_fv
  unfold ab_kd at h
  split at h
  · rename_i e; rw [e]
  · rename_i e; rw [e]
  · cases h
theorem ab_fv_r {ad : Nat → Nat} {M : ab_M} {i k : Nat} (h : ab_kd (ab_ft (ab_cd i) k) = 1) : ab_fv ad M i k = ab_v ad (M.2.2.1 i k) := by
  unfold ab_fv
  unfold ab_kd at h
  split at h
  · cases h
  · cases h
  · rename_i e1 e2
    split
    · rename_i e3; exact absurd e3 e1
    · rename_i e3; exact absurd e3 e2
    · rfl
theorem ab_ws_at {ad : Nat → Nat} {cA : Nat → ClassId} {dom : List Nat} {M : ab_M} {q i : Nat} (h : dom[q]? = some i) : (ab_ws ad cA dom M)[q]? = some (ad i, ab_enc ad cA M i) := by
  unfold ab_ws
  rw [List.getElem?_map, h]
  rfl
theorem ab_in_dom {dom : List Nat} {n i : Nat} (h : ab_ok dom n (.ref i)) (hc : ab_cd i < 32) : ∃ q : Nat, dom[q]? = some i := by
  rcases h.1 with h | h
  · exact List.getElem?_of_mem h
  · omega
theorem ab_ws_set {ad : Nat → Nat} {cA : Nat → ClassId} {dom : List Nat} {M M' : ab_M} {A : Nat → Prop} {q i : Nat} {e : va_E} (hD : va_D A (ab_ws ad cA dom M)) (hq : dom[q]? = some i) (he : e = ab_enc ad cA M' i) (ho : ∀ j, j ≠ i → ab_enc ad cA M' j = ab_enc ad cA M j) : (ab_ws ad cA dom M).set q (ad i, e) = ab_ws ad cA dom M' := by
  apply List.ext_getElem?
  intro n
  by_cases hn : q = n
  · subst hn
    have hlt : q < (ab_ws ad cA dom M).length := (List.getElem?_eq_some_iff.mp (ab_ws_at (ad := ad) (cA := cA) (M := M) hq)).1
    rw [List.getElem?_set_self hlt, ab_ws_at hq, he]
  · rw [List.getElem?_set_ne hn]
    cases hj : dom[n]? with
    | none =>
      unfold ab_ws
      rw [List.getElem?_map, List.getElem?_map, hj]
      rfl
    | some j =>
      rw [ab_ws_at hj, ab_ws_at hj]
      have hne : j ≠ i := by
        intro h
        subst h
        exact hn (hD.1 q n _ _ (ab_ws_at hq) (ab_ws_at hj) rfl)
      rw [ho j hne]
theorem ab_enc_o {ad : Nat → Nat} {cA : Nat → ClassId} {M : ab_M} {i : Nat} (h : ab_cd i < 12) : ab_enc ad cA M i = .inr (ab_cd i, (List.range (ab_nf (ab_cd i))).map (ab_fv ad M i)) := by
  unfold ab_enc; rw [if_pos h]
theorem ab_enc_a {ad : Nat → Nat} {cA : Nat → ClassId} {M : ab_M} {i : Nat} (h : ¬ ab_cd i < 12) : ab_enc ad cA M i = .inl (cA i, ab_ln i, ab_con ad M i) := by
  unfold ab_enc; rw [if_neg h]
theorem ab_con_i {ad : Nat → Nat} {M : ab_M} {i : Nat} (h : ab_cd i = 16 ∨ ab_cd i = 17 ∨ ab_cd i = 18) : ab_con ad M i = .inl (M.1 i) := by
  unfold ab_con; rw [if_neg (by omega), if_neg (by omega)]
theorem ab_con_l {ad : Nat → Nat} {M : ab_M} {i : Nat} (h : ab_cd i = 19) : ab_con ad M i = .inr (.inl (M.2.1 i)) := by
  unfold ab_con; rw [if_pos h]
theorem ab_con_q {ad : Nat → Nat} {M : ab_M} {i : Nat} (h : ab_cd i = 20) : ab_con ad M i = .inr (.inr (.inr (.inr (fun j => ab_q ad (M.2.2.1 i j))))) := by
  unfold ab_con; rw [if_neg (by omega), if_pos h]
/-- an encoding hangs on the id's own contents alone -/
theorem ab_enc_eq {ad : Nat → Nat} {cA : Nat → ClassId} {M M' : ab_M} {j : Nat} (h1 : M'.1 j = M.1 j) (h2 : M'.2.1 j = M.2.1 j) (h3 : M'.2.2.1 j = M.2.2.1 j) : ab_enc ad cA M' j = ab_enc ad cA M j := by
  unfold ab_enc
  split
  · congr 2
    apply List.map_congr_left
    intro k _
    unfold ab_fv
    rw [h1, h3]
  · unfold ab_con
    rw [h1, h2, h3]
theorem ab_K1 {w : ab_Wd} {s : State} {cA : ClassId} {ty : FieldType} (h : va_K w.2.1 ab_cl [] s) (h1 : ArrOfT s cA ty) (h2 : va_RA s cA ty) : va_K w.2.1 ab_cl [(cA, ty)] s := by
  refine ⟨h.1, fun k q hk => ?_⟩
  match k, hk with
  | 0, hk => cases hk; exact ⟨h1, h2⟩
  | k + 1, hk => simp at hk
theorem ab_Rel_set {w : ab_Wd} {ad : Nat → Nat} {cA : Nat → ClassId} {dom : List Nat} {M M' : ab_M} {s : State} {H H1 : Heap} {q i : Nat} {e : va_E} (hR : ab_Rel w ad cA dom M s H) (hq : dom[q]? = some i) (he : e = ab_enc ad cA M' i) (h1 : ∀ j, j ≠ i → M'.1 j = M.1 j) (h2 : ∀ j, j ≠ i → M'.2.1 j = M.2.1 j) (h3 : ∀ j, j ≠ i → M'.2.2.1 j = M.2.2.1 j) (h4 : M'.2.2.2.1 = M.2.2.2.1) (h5 : ∀ k, ab_ok dom M.2.2.2.1 (M'.2.2.1 i k))
    (hP : va_P w.2.1 ab_cl ((ab_ws ad cA dom M).set q (ad i, e)) H1) (hD : va_D (ab_A w) ((ab_ws ad cA dom M).set q (ad i, e))) : ab_Rel w ad cA dom M' s H1 := by
  obtain ⟨r1, r2, r3, r4, r5⟩ := hR
  rw [ab_ws_set r2 hq he (fun j hj => ab_enc_eq (h1 j hj) (h2 j hj) (h3 j hj))] at hP hD
  refine ⟨hP, hD, by rw [h4]; exact r3, ?_, r5⟩
  rw [h4]
  intro j hj k
  by_cases e : j = i
  · subst e; exact h5 k
  · rw [h3 j e]; exact r4 j hj k
section ABM
variable {w : ab_Wd} {d : Nat} {me : ab_Me} {pc : Nat} {ls st : List Value} {M : ab_M} {res : ab_Re}
theorem ab_fs_at {ad : Nat → Nat} {M : ab_M} {i k : Nat} (hk : k < ab_nf (ab_cd i)) : ((List.range (ab_nf (ab_cd i))).map (ab_fv ad M i))[k]? = some (ab_fv ad M i k) := by
  rw [List.getElem?_map, List.getElem?_range hk]
  rfl
theorem ab_getI {idx i ci k : Nat} (hd : decode (ab_bc me) pc = .ok (.getfield idx, 3)) (hw : Cond.fieldLink me.1.cls idx (ab_Tf ci k).1 (ab_Tf ci k).2.1 (ab_Tf ci k).2.2.1 ∈ ab_T) (hi : ab_cd i = ci) (hc : ci < 12) (hk : k < ab_nf ci) (hf : ab_kd (ab_ft ci k) = 0) (kk : ab_E w d me (pc + 3) ls (.int (M.1 i k) :: st) M res) : ab_E w d me pc ls (.ref i :: st) M res := by
  intro p e R s m args below meth c C n0 dom0 ad0 cA0 c0 s0 ad cA dom H locs lsA cells slots At
  have C1 := C
  obtain ⟨hx, hb, -, -, hown, hts, -, -, -, -, ⟨hK, -⟩, -⟩ := C1
  obtain ⟨a1, a2, a3, a4, a5, a6, a7, a8, a9, a10, a11⟩ := At
  subst hi
  obtain ⟨q, hq⟩ := ab_in_dom (List.forall_mem_cons.mp a5).1 (by omega)
  have he := ab_ws_at (ad := ad) (cA := cA) (M := M) hq
  rw [ab_enc_o hc] at he
  refine va_get (ci := ab_cd i) (v := .int (M.1 i k)) hx hb hts (ab_in _ hc) hown hK a1.1 q he (ab_cl_at _ hc) k hk (hts _ hw) (fun _ h => h) (by rw [ab_fs_at hk, ab_fv_i hf]) hd ?_
  exact kk p e R s m args below meth c C n0 dom0 ad0 cA0 c0 s0 ad cA dom H locs lsA cells slots ⟨a1, a2, a3, a4, List.forall_mem_cons.mpr ⟨trivial, (List.forall_mem_cons.mp a5).2⟩, a6, a7, a8, a9, a10, a11⟩
theorem ab_getR {idx i ci k j : Nat} (hd : decode (ab_bc me) pc = .ok (.getfield idx, 3)) (hw : Cond.fieldLink me.1.cls idx (ab_Tf ci k).1 (ab_Tf ci k).2.1 (ab_Tf ci k).2.2.1 ∈ ab_T) (hi : ab_cd i = ci) (hc : ci < 12) (hk : k < ab_nf ci) (hf : ab_kd (ab_ft ci k) = 1) (hj : M.2.2.1 i k = .ref j) (kk : ab_E w d me (pc + 3) ls (.ref j :: st) M res) : ab_E w d me pc ls (.ref i :: st) M res := by
  intro p e R s m args below meth c C n0 dom0 ad0 cA0 c0 s0 ad cA dom H locs lsA cells slots At
  have C1 := C
  obtain ⟨hx, hb, -, -, hown, hts, -, -, -, -, ⟨hK, -⟩, -⟩ := C1
  obtain ⟨a1, a2, a3, a4, a5, a6, a7, a8, a9, a10, a11⟩ := At
  subst hi
  obtain ⟨q, hq⟩ := ab_in_dom (List.forall_mem_cons.mp a5).1 (by omega)
  have he := ab_ws_at (ad := ad) (cA := cA) (M := M) hq
  rw [ab_enc_o hc] at he
  have ho : ab_ok dom M.2.2.2.1 (.ref j) := by rw [← hj]; exact a1.2.2.2.1 i (List.mem_of_getElem? hq) k
  refine va_get (ci := ab_cd i) (v := .ref (ad j)) hx hb hts (ab_in _ hc) hown hK a1.1 q he (ab_cl_at _ hc) k hk (hts _ hw) (fun _ h => h) (by rw [ab_fs_at hk, ab_fv_r hf, hj]; rfl) hd ?_
  exact kk p e R s m args below meth c C n0 dom0 ad0 cA0 c0 s0 ad cA dom H locs lsA cells slots ⟨a1, a2, a3, a4, List.forall_mem_cons.mpr ⟨ho, (List.forall_mem_cons.mp a5).2⟩, a6, a7, a8, a9, a10, a11⟩
theorem ab_fs_set {ad : Nat → Nat} {M M' : ab_M} {i k : Nat} {v : Value} (hv : ab_fv ad M' i k = v) (ho : ∀ j, j ≠ k → ab_fv ad M' i j = ab_fv ad M i j) : ((List.range (ab_nf (ab_cd i))).map (ab_fv ad M i)).set k v = (List.range (ab_nf (ab_cd i))).map (ab_fv ad M' i) := by
  apply List.ext_getElem?
  intro n
  by_cases hn : k = n
  · subst hn
    by_cases hk : k < ab_nf (ab_cd i)
    · rw [List.getElem?_set_self (by simpa using hk), ab_fs_at hk, hv]
    · rw [List.getElem?_eq_none (by simpa using hk), List.getElem?_eq_none (by simpa using hk)]
  · rw [List.getElem?_set_ne hn]
    by_cases hk : n < ab_nf (ab_cd i)
    · rw [ab_fs_at hk, ab_fs_at hk, ho n (fun h => hn h.symm)]
    · rw [List.getElem?_eq_none (by simpa using hk), List.getElem?_eq_none (by simpa using hk)]
theorem ab_fv_up {ad : Nat → Nat} {M : ab_M} {i k j : Nat} {x : Int32} (h : j ≠ k) : ab_fv ad (ab_up M.1 i k x, M.2) i j = ab_fv ad M i j := by
  unfold ab_fv ab_up
  simp [pk_un h]
theorem ab_fv_upR {ad : Nat → Nat} {M : ab_M} {i k j : Nat} {x : Value} (h : j ≠ k) : ab_fv ad (M.1, M.2.1, ab_upR M.2.2.1 i k x, M.2.2.2) i j = ab_fv ad M i j := by
  unfold ab_fv ab_upR
  simp [h]
theorem ab_putI {idx i ci k : Nat} {x : Int32} (hd : decode (ab_bc me) pc = .ok (.putfield idx, 3)) (hw : Cond.fieldLink me.1.cls idx (ab_Tf ci k).1 (ab_Tf ci k).2.1 (ab_Tf ci k).2.2.1 ∈ ab_T) (hi : ab_cd i = ci) (hc : ci < 12) (hk : k < ab_nf ci) (hf : ab_kd (ab_ft ci k) = 0) (hfin : (ab_Tf ci k).2.2.2 = false ∨ ((ab_Tf ci k).2.2.2 = true ∧ me.1.name = "<init>" ∧ (ab_Tf ci k).1 = me.1.cls)) (hn : narrow (ab_ft ci k) (.int x) = .int x) (hft : fits (ab_ft ci k) (.int x) = true) (kk : ab_E w d me (pc + 3) ls st (ab_up M.1 i k x, M.2) res) : ab_E w d me pc ls (.int x :: .ref i :: st) M res := by
  intro p e R s m args below meth c C n0 dom0 ad0 cA0 c0 s0 ad cA dom H locs lsA cells slots At
  have C1 := C
  obtain ⟨hx, hb, -, -, hown, hts, -, hnm, -, -, ⟨hK, -⟩, -⟩ := C1
  obtain ⟨a1, a2, a3, a4, a5, a6, a7, a8, a9, a10, a11⟩ := At
  subst hi
  obtain ⟨-, o2⟩ := List.forall_mem_cons.mp a5
  obtain ⟨o2, o3⟩ := List.forall_mem_cons.mp o2
  obtain ⟨q, hq⟩ := ab_in_dom o2 (by omega)
  have he := ab_ws_at (ad := ad) (cA := cA) (M := M) hq
  rw [ab_enc_o hc] at he
  have hlen : k < ((List.range (ab_nf (ab_cd i))).map (ab_fv ad M i)).length := by simpa using hk
  have hset : (Sum.inr (ab_cd i, ((List.range (ab_nf (ab_cd i))).map (ab_fv ad M i)).set k (.int x)) : va_E) = ab_enc ad cA (ab_up M.1 i k x, M.2) i := by
    rw [ab_enc_o hc, ab_fs_set (M' := (ab_up M.1 i k x, M.2)) (by rw [ab_fv_i hf]; simp [ab_up, pk_us]) (fun j hj => ab_fv_up hj)]
  have fin : ∀ (H1 : Heap) (locs1 : List Loc), va_P w.2.1 ab_cl ((ab_ws ad cA dom M).set q (ad i, .inr (ab_cd i, ((List.range (ab_nf (ab_cd i))).map (ab_fv ad M i)).set k (.int x)))) H1 → va_D (ab_A w) ((ab_ws ad cA dom M).set q (ad i, .inr (ab_cd i, ((List.range (ab_nf (ab_cd i))).map (ab_fv ad M i)).set k (.int x)))) → va_S (ab_A w) s.heap H1 locs1 →
      W p w.1 e R s m args below meth c H1 locs1 cells slots (vx_MQ below (ab_Qc w res n0 dom0 ad0 cA0) (ab_XC w res n0 dom0 ad0 cA0) args s (res.2.2.2.2.2.1 - c0) (res.2.2.2.2.2.2 - s0) (ab_A w)) (F0 m (pc + 3) lsA (st.map (ab_v ad))) := fun H1 locs1 hP hD hS =>
    kk p e R s m args below meth c C n0 dom0 ad0 cA0 c0 s0 ad cA dom H1 locs1 lsA cells slots ⟨ab_Rel_set a1 hq hset (fun j hj => by simp [ab_up, hj]) (fun j hj => rfl) (fun j hj => rfl) rfl (fun k => a1.2.2.2.1 i (List.mem_of_getElem? hq) k) hP hD, hS, a3, a4, o3, a6, a7, a8, a9, a10, a11⟩
  rcases hfin with hfin | ⟨hfin, hin, hdc⟩
  · exact va_put (ci := ab_cd i) (v := .int x) (ty := ab_ft (ab_cd i) k) hx hb hts (ab_in _ hc) (ab_ft (ab_cd i)) (ab_ty _ hc) (ab_nm _ hc) hown hK a1.1 a1.2.1 a2 q he (ab_cl_at _ hc) k hk (hts _ hw) (fun _ h => h) hfin (ab_ty _ hc k hk) hn hft hlen hd fin
  · exact va_putF (ci := ab_cd i) (v := .int x) (ty := ab_ft (ab_cd i) k) hx hb hts (ab_in _ hc) (ab_ft (ab_cd i)) (ab_ty _ hc) (ab_nm _ hc) hown hK a1.1 a1.2.1 a2 q he (ab_cl_at _ hc) k hk (hts _ hw) (fun _ h => h) hfin (hnm.trans hin) hdc (ab_ty _ hc k hk) hn hft hlen hd fin
theorem ab_putR {idx i ci k j : Nat} (hd : decode (ab_bc me) pc = .ok (.putfield idx, 3)) (hw : Cond.fieldLink me.1.cls idx (ab_Tf ci k).1 (ab_Tf ci k).2.1 (ab_Tf ci k).2.2.1 ∈ ab_T) (hi : ab_cd i = ci) (hc : ci < 12) (hk : k < ab_nf ci) (hf : ab_kd (ab_ft ci k) = 1) (hfin : (ab_Tf ci k).2.2.2 = false ∨ ((ab_Tf ci k).2.2.2 = true ∧ me.1.name = "<init>" ∧ (ab_Tf ci k).1 = me.1.cls)) (hn : ∀ a : Nat, narrow (ab_ft ci k) (.ref a) = .ref a) (hft : ∀ a : Nat, fits (ab_ft ci k) (.ref a) = true) (kk : ab_E w d me (pc + 3) ls st (M.1, M.2.1, ab_upR M.2.2.1 i k (.ref j), M.2.2.2) res) : ab_E w d me pc ls (.ref j :: .ref i :: st) M res := by
  intro p e R s m args below meth c C n0 dom0 ad0 cA0 c0 s0 ad cA dom H locs lsA cells slots At
  have C1 := C
  obtain ⟨hx, hb, -, -, hown, hts, -, hnm, -, -, ⟨hK, -⟩, -⟩ := C1
  obtain ⟨a1, a2, a3, a4, a5, a6, a7, a8, a9, a10, a11⟩ := At
  subst hi
  obtain ⟨o1, o2⟩ := List.forall_mem_cons.mp a5
  obtain ⟨o2, o3⟩ := List.forall_mem_cons.mp o2
  obtain ⟨q, hq⟩ := ab_in_dom o2 (by omega)
  have he := ab_ws_at (ad := ad) (cA := cA) (M := M) hq
  rw [ab_enc_o hc] at he
  have hlen : k < ((List.range (ab_nf (ab_cd i))).map (ab_fv ad M i)).length := by simpa using hk
  have hset : (Sum.inr (ab_cd i, ((List.range (ab_nf (ab_cd i))).map (ab_fv ad M i)).set k (.ref (ad j))) : va_E) = ab_enc ad cA (M.1, M.2.1, ab_upR M.2.2.1 i k (.ref j), M.2.2.2) i := by
    rw [ab_enc_o hc, ab_fs_set (M' := (M.1, M.2.1, ab_upR M.2.2.1 i k (.ref j), M.2.2.2)) (by rw [ab_fv_r hf]; simp [ab_upR, ab_v]) (fun j hj => ab_fv_upR hj)]
  have fin : ∀ (H1 : Heap) (locs1 : List Loc), va_P w.2.1 ab_cl ((ab_ws ad cA dom M).set q (ad i, .inr (ab_cd i, ((List.range (ab_nf (ab_cd i))).map (ab_fv ad M i)).set k (.ref (ad j))))) H1 → va_D (ab_A w) ((ab_ws ad cA dom M).set q (ad i, .inr (ab_cd i, ((List.range (ab_nf (ab_cd i))).map (ab_fv ad M i)).set k (.ref (ad j))))) → va_S (ab_A w) s.heap H1 locs1 →
      W p w.1 e R s m args below meth c H1 locs1 cells slots (vx_MQ below (ab_Qc w res n0 dom0 ad0 cA0) (ab_XC w res n0 dom0 ad0 cA0) args s (res.2.2.2.2.2.1 - c0) (res.2.2.2.2.2.2 - s0) (ab_A w)) (F0 m (pc + 3) lsA (st.map (ab_v ad))) := fun H1 locs1 hP hD hS =>
    kk p e R s m args below meth c C n0 dom0 ad0 cA0 c0 s0 ad cA dom H1 locs1 lsA cells slots ⟨ab_Rel_set a1 hq hset (fun j hj => rfl) (fun j hj => rfl) (fun j hj => by simp [ab_upR, hj]) rfl (fun k9 => by
      simp only [ab_upR, if_true]
      split
      · exact o1
      · exact a1.2.2.2.1 i (List.mem_of_getElem? hq) k9) hP hD, hS, a3, a4, o3, a6, a7, a8, a9, a10, a11⟩
  rcases hfin with hfin | ⟨hfin, hin, hdc⟩
  · exact va_put (ci := ab_cd i) (v := .ref (ad j)) (ty := ab_ft (ab_cd i) k) hx hb hts (ab_in _ hc) (ab_ft (ab_cd i)) (ab_ty _ hc) (ab_nm _ hc) hown hK a1.1 a1.2.1 a2 q he (ab_cl_at _ hc) k hk (hts _ hw) (fun _ h => h) hfin (ab_ty _ hc k hk) (hn _) (hft _) hlen hd fin
  · exact va_putF (ci := ab_cd i) (v := .ref (ad j)) (ty := ab_ft (ab_cd i) k) hx hb hts (ab_in _ hc) (ab_ft (ab_cd i)) (ab_ty _ hc) (ab_nm _ hc) hown hK a1.1 a1.2.1 a2 q he (ab_cl_at _ hc) k hk (hts _ hw) (fun _ h => h) hfin (hnm.trans hin) hdc (ab_ty _ hc k hk) (hn _) (hft _) hlen hd fin
end ABM
