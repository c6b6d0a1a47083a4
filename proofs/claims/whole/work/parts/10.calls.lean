/-! CONTRACTS AND CALLS -/
def ab_wsm (me : ab_Me) : List Cond := Cond.code me.1 (ab_bc me) (ab_ml me) me.2.2.2 :: ab_T
def ab_rm (d mc ms : Nat) : Room := { frames := d, cells := mc, slots := ms, locals := 64 * d }
def ab_Pc (w : ab_Wd) (as : List Value) (M : ab_M) (ad : Nat → Nat) (cA : Nat → ClassId) (dom : List Nat) : Array Value → State → Prop := fun v U => v = (as.map (ab_v ad)).toArray ∧ w.2.2.1 ≤ U.heap.size ∧ ab_Env w U U.heap ∧ ab_Rel w ad cA dom M U U.heap ∧ ∀ a ∈ as, ab_ok dom M.2.2.2.1 a
/-- THE CONTRACT: called with these, over this memory, the method ends with res -/
def ab_C (w : ab_Wd) (d : Nat) (me : ab_Me) (as : List Value) (M : ab_M) (res : ab_Re) : Prop := ∀ (ad : Nat → Nat) (cA : Nat → ClassId) (dom : List Nat),
  vx_Met w.1 me.1 (ab_wsm me) (ab_rm d (res.2.2.2.2.2.1 - M.2.2.2.2.1) (res.2.2.2.2.2.2 - M.2.2.2.2.2)) (ab_Pc w as M ad cA dom) (ab_Qc w res M.2.2.2.1 dom ad cA) (ab_XC w res M.2.2.2.1 dom ad cA) (res.2.2.2.2.2.1 - M.2.2.2.2.1) (res.2.2.2.2.2.2 - M.2.2.2.2.2) (ab_A w)
def ab_sl (as : List Value) : List Value := as.flatMap fun v => if v.category = 2 then [v, .null] else [v]
def ab_ent (as : List Value) (n : Nat) : List Value := ab_sl as ++ List.replicate (n - (ab_sl as).length) .null
theorem ab_sl_cons (v : Value) (as : List Value) : ab_sl (v :: as) = (if v.category = 2 then [v, .null] else [v]) ++ ab_sl as := rfl
theorem lg_sl_cons (v : Value) (as : List Value) : lg_sl (v :: as) = (if v.category = 2 then [.val v, .second] else [.val v]) ++ lg_sl as := rfl
theorem ab_sl_len (ad : Nat → Nat) : ∀ as : List Value, (lg_sl (as.map (ab_v ad))).length = (ab_sl as).length := by
  intro as
  induction as with
  | nil => rfl
  | cons v as ih =>
    rw [List.map_cons, lg_sl_cons, ab_sl_cons, List.length_append, List.length_append, ih, ab_v_cat]
    split <;> rfl
theorem ab_sl_at (ad : Nat → Nat) : ∀ (as : List Value) (i : Nat) (v : Value), (ab_sl as)[i]? = some v → v ≠ .null → (lg_sl (as.map (ab_v ad)))[i]? = some (.val (ab_v ad v)) := by
  intro as
  induction as with
  | nil => intro i v h; simp [ab_sl] at h
  | cons u as ih =>
    intro i v h hv
    rw [ab_sl_cons] at h
    rw [List.map_cons, lg_sl_cons, ab_v_cat]
    by_cases hc : u.category = 2
    · rw [if_pos hc] at h ⊢
      match i, h with
      | 0, h => cases h; rfl
      | 1, h => cases h; exact absurd rfl hv
      | i + 2, h => exact ih i v h hv
    · rw [if_neg hc] at h ⊢
      match i, h with
      | 0, h => cases h; rfl
      | i + 1, h => exact ih i v h hv
theorem ab_ent_lo (ad : Nat → Nat) (as : List Value) (n : Nat) (h : (ab_sl as).length ≤ n) : ab_Lo ad (ab_ent as n) ((lg_sl (as.map (ab_v ad)) ++ List.replicate (n - (lg_sl (as.map (ab_v ad))).length) Slot.unset).toArray) n := by
  have hh := lv_entry (as.map (ab_v ad)) (n := n) (by rw [ab_sl_len]; exact h)
  refine ⟨hh.1, hh.2.1, by simp [ab_ent]; omega, fun i v hi hv => ?_⟩
  unfold ab_ent at hi
  by_cases hl : i < (ab_sl as).length
  · rw [List.getElem?_append_left hl] at hi
    have h1 := ab_sl_at ad as i v hi hv
    rw [List.getElem?_toArray, List.getElem?_append_left (by rw [ab_sl_len]; exact hl)]
    exact h1
  · rw [List.getElem?_append_right (by omega)] at hi
    have := List.mem_of_getElem? hi
    exact absurd (List.eq_of_mem_replicate this) hv
theorem ab_sl_mem {as : List Value} {v : Value} (h : v ∈ ab_sl as) : v ∈ as ∨ v = .null := by
  obtain ⟨u, hu, hv⟩ := List.mem_flatMap.mp h
  split at hv
  · rcases List.mem_cons.mp hv with h | h
    · exact Or.inl (h ▸ hu)
    · exact Or.inr (List.mem_singleton.mp h)
  · exact Or.inl (List.mem_singleton.mp hv ▸ hu)
theorem ab_ent_ok {dom : List Nat} {n9 n : Nat} {as : List Value} (h : ∀ a ∈ as, ab_ok dom n9 a) : ∀ v ∈ ab_ent as n, ab_ok dom n9 v := by
  intro v hv
  rcases List.mem_append.mp hv with h1 | h1
  · rcases ab_sl_mem h1 with h2 | h2
    · exact h v h2
    · subst h2; trivial
  · cases List.eq_of_mem_replicate h1; trivial
/-- the contract out of the walk -/
theorem ab_C_of {w : ab_Wd} {d : Nat} {me : ab_Me} {as : List Value} {M : ab_M} {res : ab_Re} (hp : plainName me.1.cls = true) (hhh : ab_hh me = []) (hl : (ab_sl as).length ≤ ab_ml me) (hT : w.1.stackTraces = false) (k : ab_E w d me 0 (ab_ent as (ab_ml me)) [] M res) : ab_C w d me as M res := by
  intro ad cA dom
  refine vx_ofW (cc := ab_bc me) (maxL := ab_ml me) (ret := me.2.2.2) hp rfl ?_
  intro p e s m args below meth c s₁ B hml htab hv
  obtain ⟨rfl, hN, hE, hR, ho⟩ := hv
  have hts0 := atoms_spec (ws := ab_wsm me) B.pre
  have hts : ∀ t ∈ ab_T, t.before (as.map (ab_v ad)).toArray s = true := fun t ht => hts0 t (List.mem_cons_of_mem _ ht)
  have htab' : c.exceptionTable.toList = tableOf (ab_hh me) := by
    rw [hhh]
    cases ht : c.exceptionTable.toList with
    | nil => rfl
    | cons x xs => exact (htab x (by rw [ht]; exact List.mem_cons_self)).elim
  rw [lg_entry_eq]
  exact k p e _ s m _ below meth c ⟨B.exec, B.bytes, hml, B.returns, findClass_of_methodNamed B.named, hts, B.notSynchronized, (name_of_methodNamed B.named B.method).1, htab', hN, hE, Nat.le_refl _, Nat.le_refl _, hT⟩ M.2.2.2.1 dom ad cA M.2.2.2.2.1 M.2.2.2.2.2 ad cA dom s.heap [] _ 0 0
    ⟨hR, va_S.rf, ab_ent_lo ad as _ hl, ab_ent_ok ho, (fun v h => by cases h), ⟨fun _ h => h, fun _ _ => ⟨rfl, rfl⟩⟩, Nat.le_refl _, rfl, rfl, Nat.le_refl _, Nat.le_refl _⟩
theorem ab_good (me : ab_Me) (h : Cond.code me.1 (ab_bc me) (ab_ml me) me.2.2.2 ∈ ab_T) : GoodIn ab_T (ab_wsm me) := by
  intro t ht
  have h1 : t ∈ ab_T := by
    rcases List.mem_cons.mp ht with e | e
    · rw [e]; exact h
    · exact e
  exact ⟨h1, good_of_word (List.mem_filter.mp h1).2⟩
theorem ab_Pc_blind {w : ab_Wd} {as : List Value} {M : ab_M} {ad : Nat → Nat} {cA : Nat → ClassId} {dom : List Nat} : FrameBlind (ab_Pc w as M ad cA dom) := by
  intro a U g mk h
  obtain ⟨h1, h2, h3, h4, h5⟩ := h
  exact ⟨h1, h2, ab_Env_same (s := U) (U := U.calling g mk a) rfl rfl h3, ab_Rel_moved (s := U) (t := U.calling g mk a) (Vm.Alike.refl U.vm) rfl h4, h5⟩
/-- the memory behind a call that keeps nothing of what it made -/
def ab_bk (M M2 : ab_M) : ab_M := (M2.1, M2.2.1, M.2.2.1, M.2.2.2.1, M2.2.2.2.2.1, M2.2.2.2.2.2)
theorem ab_v_ext {n : Nat} {dom dom' : List Nat} {ad ad' : Nat → Nat} {cA cA' : Nat → ClassId} {dom9 : List Nat} {v : Value} (hx : ab_Ext n dom ad cA dom' ad' cA') (h : ab_ok dom9 n v) : ab_v ad' v = ab_v ad v := by
  cases v with
  | ref j => show Value.ref _ = Value.ref _; rw [(hx.2 j h.2).1]
  | _ => rfl
theorem ab_Rel_bk {w : ab_Wd} {ad ad' : Nat → Nat} {cA cA' : Nat → ClassId} {dom dom' : List Nat} {M M2 : ab_M} {s : State} {H H1 : Heap} (hR : ab_Rel w ad cA dom M s H) (hR2 : ab_Rel w ad' cA' dom' M2 s H1) (hx : ab_Ext M.2.2.2.1 dom ad cA dom' ad' cA') (hk : ∀ i, ab_bl i ≤ M.2.2.2.1 → M2.2.2.1 i = M.2.2.1 i) : ab_Rel w ad' cA' dom (ab_bk M M2) s H1 := by
  obtain ⟨r1, r2, r3, r4, r5⟩ := hR
  obtain ⟨t1, t2, t3, t4, t5⟩ := hR2
  have hel : ∀ (k : Nat) (i : Nat), dom[k]? = some i → ∃ k' : Nat, dom'[k']? = some i ∧ (ab_ws ad' cA' dom (ab_bk M M2))[k]? = some (ad' i, ab_enc ad' cA' M2 i) := by
    intro k i hk9
    have hi := List.mem_of_getElem? hk9
    obtain ⟨k', hk'⟩ := List.getElem?_of_mem (hx.1 i hi)
    refine ⟨k', hk', ?_⟩
    rw [ab_ws_at hk9, ab_enc_eq (M := M2) (M' := ab_bk M M2) rfl rfl (hk i (r3 i hi).1).symm]
  have hget : ∀ (k : Nat) (q : Nat × va_E), (ab_ws ad' cA' dom (ab_bk M M2))[k]? = some q → ∃ i, dom[k]? = some i := by
    intro k q hq
    have hl := (List.getElem?_eq_some_iff.mp hq).1
    unfold ab_ws at hl
    rw [List.length_map] at hl
    exact ⟨_, List.getElem?_eq_getElem hl⟩
  refine ⟨?_, ⟨?_, ?_⟩, ?_, r4, t5⟩
  · intro k q hq
    obtain ⟨i, hi⟩ := hget k q hq
    obtain ⟨k', h1, h2⟩ := hel k i hi
    cases Option.some.inj (hq.symm.trans h2)
    exact t1 k' _ (ab_ws_at h1)
  · intro a b q1 q2 h1 h2 h3
    obtain ⟨i, hi⟩ := hget a q1 h1
    obtain ⟨j, hj⟩ := hget b q2 h2
    obtain ⟨ka, e1, e2⟩ := hel a i hi
    obtain ⟨kb, f1, f2⟩ := hel b j hj
    cases Option.some.inj (h1.symm.trans e2)
    cases Option.some.inj (h2.symm.trans f2)
    have e9 := t2.1 ka kb _ _ (ab_ws_at e1) (ab_ws_at f1) h3
    subst e9
    cases Option.some.inj (e1.symm.trans f1)
    exact r2.1 a b _ _ (ab_ws_at hi) (ab_ws_at hj) rfl
  · intro k q hq
    obtain ⟨i, hi⟩ := hget k q hq
    obtain ⟨k', h1, h2⟩ := hel k i hi
    cases Option.some.inj (hq.symm.trans h2)
    exact t2.2 k' _ (ab_ws_at h1)
  · intro i hi
    exact ⟨(r3 i hi).1, (t3 i (hx.1 i hi)).2⟩
section ABC
variable {w : ab_Wd} {d : Nat} {me me2 : ab_Me} {pc : Nat} {ls st : List Value} {M M2 : ab_M} {res : ab_Re}
/-- behind a call that returned -/
theorem ab_after {p : Program} {e : Env} {R : Room} {s : State} {m : MethodId} {args : Array Value} {below : List Frame} {meth : Method} {c : Code} {n0 : Nat} {dom0 : List Nat} {ad0 : Nat → Nat} {cA0 : Nat → ClassId} {c0 s0 : Nat} {ad : Nat → Nat} {cA : Nat → ClassId} {dom : List Nat} {H : Heap} {locs : List Loc} {lsA : Array Slot} {cells slots : Nat} {rv : Option Value} {g : JFrame} {a : Array Value} {st9 : List Value} {mc ms : Nat}
    (At : ab_At w me ls st M res R s n0 dom0 ad0 cA0 c0 s0 ad cA dom H locs lsA cells slots) (hg : g = F0 m pc lsA st9)
    (hrun : vx_Run p w.1 e R s m args below meth c H locs cells slots mc ms g (st.map (ab_v ad)) (ab_Qc w (.inl rv, M2) M.2.2.2.1 dom ad cA a) (ab_XC w (.inl rv, M2) M.2.2.2.1 dom ad cA) (ab_A w)) (hmc : M2.2.2.2.2.1 = M.2.2.2.2.1 + mc) (hms : M2.2.2.2.2.2 = M.2.2.2.2.2 + ms) (hrv : ∀ j, rv ≠ some (.ref j)) (hk : ∀ i, ab_bl i ≤ M.2.2.2.1 → M2.2.2.1 i = M.2.2.1 i) {Q : State → Prop}
    (kk : ∀ (ad' : Nat → Nat) (cA' : Nat → ClassId) (H1 : Heap) (locs1 : List Loc), ab_At w me ls (rv.toList ++ st) (ab_bk M M2) res R s n0 dom0 ad0 cA0 c0 s0 ad' cA' dom H1 locs1 lsA (cells + mc) (slots + ms) → W p w.1 e R s m args below meth c H1 locs1 (cells + mc) (slots + ms) Q (F0 m (pc + 3) lsA ((rv.toList ++ st).map (ab_v ad')))) : W p w.1 e R s m args below meth c H locs cells slots Q g := by
  subst hg
  intro T hT X
  obtain ⟨a1, a2, a3, a4, a5, a6, a7, a8, a9, a10, a11⟩ := At
  rcases hrun T hT X with ⟨v, st₀, t, T', L, h0, X', hL, e1, e2, ⟨⟨rv', ad', cA', dom', r1, r2, r3, r4, r5⟩, hF⟩, go⟩ | ⟨q, st₀, t, T', L, E, ce, h0, X', hL, e1, e2, ⟨⟨ad', cA', dom', r1, -⟩, -⟩, -⟩
  · cases r1
    cases r2
    obtain ⟨-, -, k3⟩ := vx_keep (A1 := ab_A w) (free := ab_A w) h0 e1 a2 (fun q _ h => h) (fun q h => h) hL hF
    have hvm : t.vm.Alike s.vm := by rw [← e2]; exact X'.warmed.alike.symm
    have r4' : ab_Rel w ad' cA' dom' M2 s T'.heap := ab_Rel_moved hvm e1 r4
    have hR := ab_Rel_bk a1 r4' r3 hk
    have hst : (rv.toList ++ st).map (ab_v ad') = (rv.map (ab_v ad')).toList ++ st.map (ab_v ad) := by
      rw [List.map_append]
      congr 1
      · cases rv <;> rfl
      · apply List.map_congr_left
        intro v hv
        exact ab_v_ext r3 (a5 v hv)
    have hW := kk ad' cA' T'.heap (locs ++ L) ⟨hR, k3, ⟨a3.1, a3.2.1, a3.2.2.1, fun i v hi hv => by rw [ab_v_ext r3 (a4 v (List.mem_of_getElem? hi))]; exact a3.2.2.2 i v hi hv⟩, a4, ?_, ⟨a6.1, fun i hi => ⟨((r3.2 i (Nat.le_trans hi a7)).1).trans (a6.2 i hi).1, ((r3.2 i (Nat.le_trans hi a7)).2).trans (a6.2 i hi).2⟩⟩, a7, by show M2.2.2.2.2.1 = _; omega, by show M2.2.2.2.2.2 = _; omega, a10, a11⟩
    · obtain ⟨t2, b1, b2⟩ := hW T' rfl X'
      rw [hst] at b1
      exact ⟨t2, go t2 b1, b2⟩
    · intro v hv
      rcases List.mem_append.mp hv with h | h
      · cases rv with
        | none => cases h
        | some u =>
          obtain rfl : v = u := List.mem_singleton.mp h
          cases v with
          | ref j => exact absurd rfl (hrv j)
          | _ => trivial
      · exact a5 v h
  · cases r1
/-- behind a call that threw: nothing catches it here -/
theorem ab_afterX {p : Program} {e : Env} {R : Room} {s : State} {m : MethodId} {args : Array Value} {below : List Frame} {meth : Method} {c : Code} {n0 : Nat} {dom0 : List Nat} {ad0 : Nat → Nat} {cA0 : Nat → ClassId} {c0 s0 : Nat} {ad : Nat → Nat} {cA : Nat → ClassId} {dom : List Nat} {H : Heap} {locs : List Loc} {lsA : Array Slot} {cells slots : Nat} {E : String} {g : JFrame} {a : Array Value} {st9 : List Value} {mc ms : Nat}
    (At : ab_At w me ls st M (.inr E, ab_bk M M2) R s n0 dom0 ad0 cA0 c0 s0 ad cA dom H locs lsA cells slots) (hg : g = F0 m pc lsA st9) (htb : ∀ x ∈ c.exceptionTable.toList, False) (hlk : meth.locks = false)
    (hrun : vx_Run p w.1 e R s m args below meth c H locs cells slots mc ms g (st.map (ab_v ad)) (ab_Qc w (.inr E, M2) M.2.2.2.1 dom ad cA a) (ab_XC w (.inr E, M2) M.2.2.2.1 dom ad cA) (ab_A w)) (hmc : M2.2.2.2.2.1 = M.2.2.2.2.1 + mc) (hms : M2.2.2.2.2.2 = M.2.2.2.2.2 + ms) (hk : ∀ i, ab_bl i ≤ M.2.2.2.1 → M2.2.2.1 i = M.2.2.1 i) :
    W p w.1 e R s m args below meth c H locs cells slots (vx_MQ below (ab_Qc w (.inr E, ab_bk M M2) n0 dom0 ad0 cA0) (ab_XC w (.inr E, ab_bk M M2) n0 dom0 ad0 cA0) args s (M2.2.2.2.2.1 - c0) (M2.2.2.2.2.2 - s0) (ab_A w)) g := by
  subst hg
  intro T hT X
  obtain ⟨a1, a2, a3, a4, a5, a6, a7, a8, a9, a10, a11⟩ := At
  rcases hrun T hT X with ⟨v, st₀, t, T', L, h0, X', hL, e1, e2, ⟨⟨rv', ad', cA', dom', r1, -⟩, -⟩, -⟩ | ⟨q, st₀, t, T', L, E', ce, h0, X', hL, e1, e2, ⟨⟨ad', cA', dom', r1, r3, r4⟩, hF⟩, hce, hcv, hcl, go⟩
  · cases r1
  · cases r1
    obtain ⟨-, -, k3⟩ := vx_keep (A1 := ab_A w) (free := ab_A w) h0 e1 a2 (fun q _ h => h) (fun q h => h) hL hF
    have hvm : t.vm.Alike s.vm := by rw [← e2]; exact X'.warmed.alike.symm
    have r4' : ab_Rel w ad' cA' dom' M2 s T'.heap := ab_Rel_moved hvm e1 r4
    have hR := ab_Rel_bk a1 r4' r3 hk
    have hXo := vx_out (Qc := ab_Qc w (.inr E, ab_bk M M2) n0 dom0 ad0 cA0) (XC := ab_XC w (.inr E, ab_bk M M2) n0 dom0 ad0 cA0) (free := ab_A w) (pc := pc) (E := E) (ce := ce) (q := q) (mc := M2.2.2.2.2.1 - c0) (ms := M2.2.2.2.2.2 - s0) (H := T'.heap) (locs := locs ++ L) (cells := cells + mc) (slots := slots + ms) (ls := lsA) (rest := st.map (ab_v ad)) (p := p) (l := w.1) (e := e) (R := R) (args := args) (below := below) (m := m) (fun x hx => (htb x hx).elim) hlk (by rw [e1]; exact hce) hcv hcl
      (fun t9 ht9 hA9 => ⟨⟨ad', cA', dom, rfl, ⟨a6.1, fun i hi => ⟨((r3.2 i (Nat.le_trans hi a7)).1).trans (a6.2 i hi).1, ((r3.2 i (Nat.le_trans hi a7)).2).trans (a6.2 i hi).2⟩⟩, ab_Rel_moved hA9 ht9 hR⟩, k3.F ht9⟩) k3.2.2 (by omega) (by omega)
    obtain ⟨t2, b1, b2⟩ := hXo T' rfl X'
    exact ⟨t2, go.trans b1, b2⟩
end ABC
