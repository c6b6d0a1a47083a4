/-! AN ABSTRACT MACHINE OVER THE KIT'S ROWS. A cell has an id (a number that tells its class or array type and its length); the memory is three functions of id and place (ints, longs, references), the number of blocks given out, and how many cells and slots were made. ab_E: from this frame and memory the method ends with res. -/
abbrev ab_M : Type := (Nat → Nat → Int32) × (Nat → Nat → Int64) × (Nat → Nat → Value) × Nat × Nat × Nat
abbrev ab_Re : Type := (Option Value ⊕ String) × ab_M
def ab_cd (i : Nat) : Nat := i % 64
def ab_ln (i : Nat) : Nat := i / 64 % 32768
def ab_bl (i : Nat) : Nat := i / 2097152
def ab_v (ad : Nat → Nat) (v : Value) : Value := match v with
  | .ref i => .ref (ad i)
  | v => v
def ab_q (ad : Nat → Nat) (v : Value) : Option Nat := match v with
  | .ref i => some (ad i)
  | _ => none
def ab_fv (ad : Nat → Nat) (M : ab_M) (i k : Nat) : Value := match ab_ft (ab_cd i) k with
  | .int => .int (M.1 i k)
  | .boolean => .int (M.1 i k)
  | _ => ab_v ad (M.2.2.1 i k)
def ab_aty (c : Nat) : FieldType := if c = 17 then .byte else if c = 18 then .boolean else if c = 19 then .long else if c = 20 then .object "java/lang/String" else .int
def ab_con (ad : Nat → Nat) (M : ab_M) (i : Nat) : (Nat → Int32) ⊕ (Nat → Int64) ⊕ (Nat → UInt32) ⊕ (Nat → UInt64) ⊕ (Nat → Option Nat) :=
  if ab_cd i = 19 then .inr (.inl (M.2.1 i)) else if ab_cd i = 20 then .inr (.inr (.inr (.inr (fun j => ab_q ad (M.2.2.1 i j))))) else .inl (M.1 i)
def ab_enc (ad : Nat → Nat) (cA : Nat → ClassId) (M : ab_M) (i : Nat) : va_E :=
  if ab_cd i < 12 then .inr (ab_cd i, (List.range (ab_nf (ab_cd i))).map (ab_fv ad M i)) else .inl (cA i, ab_ln i, ab_con ad M i)
def ab_ws (ad : Nat → Nat) (cA : Nat → ClassId) (dom : List Nat) (M : ab_M) : va_W := dom.map (fun i => (ad i, ab_enc ad cA M i))
/-- what is fixed over the whole run: the launch, the classes' numbers, the heap's size at the start, the script, the String constants' cells -/
abbrev ab_Wd : Type := Launch × va_G × Nat × Nat × Nat × (Nat → Int32) × (Nat → Nat) × (Nat → Nat)
def ab_A (w : ab_Wd) : Nat → Prop := fun q => w.2.2.1 ≤ q
def ab_ok (dom : List Nat) (n : Nat) (v : Value) : Prop := match v with
  | .ref i => (i ∈ dom ∨ 32 ≤ ab_cd i) ∧ ab_bl i ≤ n
  | _ => True
def ab_Sp (w : ab_Wd) (ad : Nat → Nat) : Prop := (∀ j, j < 8 → ad (64 * j + 32) = w.2.2.2.2.2.2.1 j) ∧ (∀ j, j < 8 → ad (64 * j + 33) = w.2.2.2.2.2.2.2 j) ∧ ad 34 = w.2.2.2.1
def ab_arr (s : State) (cA : Nat → ClassId) (i : Nat) : Prop := ab_cd i < 12 ∨ (12 ≤ ab_cd i ∧ ab_cd i < 32 ∧ ArrOfT s (cA i) (ab_aty (ab_cd i)) ∧ va_RA s (cA i) (ab_aty (ab_cd i)))
def ab_Rel (w : ab_Wd) (ad : Nat → Nat) (cA : Nat → ClassId) (dom : List Nat) (M : ab_M) (s : State) (H : Heap) : Prop :=
  va_P w.2.1 ab_cl (ab_ws ad cA dom M) H ∧ va_D (ab_A w) (ab_ws ad cA dom M) ∧ (∀ i ∈ dom, ab_bl i ≤ M.2.2.2.1 ∧ ab_arr s cA i) ∧ (∀ i ∈ dom, ∀ k, ab_ok dom M.2.2.2.1 (M.2.2.1 i k)) ∧ ab_Sp w ad
def ab_strs : List (String × Nat × String × Nat) := [("CableKeeper$Reader", 56, "sites", 0), ("CableKeeper$Reader", 65, "cable", 1), ("CableKeeper$Reader", 70, "broken", 2), ("CableKeeper$Teller", 19, "sites ", 3), ("CableKeeper$Teller", 33, ";", 6), ("CableKeeper$Teller", 38, "cable ", 4), ("CableKeeper$Teller", 44, " ", 5), ("CableKeeper$Teller", 59, "broken ", 7), ("CableKeeperModel", 9, "sites", 0), ("CableKeeperModel", 11, "cable", 1), ("CableKeeperModel", 13, "broken", 2), ("CableKeeperModel", 403, "sites ", 3), ("CableKeeperModel", 409, "cable ", 4), ("CableKeeperModel", 411, "broken ", 7)]
def ab_ncs : List (String × String) := [("java/util/NoSuchElementException", "java/lang/IllegalArgumentException"), ("java/lang/IllegalStateException", "java/util/NoSuchElementException"), ("java/lang/IllegalArgumentException", "java/util/NoSuchElementException")]
/-- words that hold at every state, though they aren't of the kind that GoodIn takes -/
def ab_wk (t : Cond) : Bool := match t with
  | .methodLinkNest _ _ _ _ => true
  | .declares _ => true
  | .castable _ _ => true
  | _ => false
def ab_slen : List Nat := [5, 5, 6, 6, 6, 1, 1, 7]
def ab_sbyt : List (List Int32) := [[115, 105, 116, 101, 115], [99, 97, 98, 108, 101], [98, 114, 111, 107, 101, 110], [115, 105, 116, 101, 115, 32], [99, 97, 98, 108, 101, 32], [32], [59], [98, 114, 111, 107, 101, 110, 32]]
/-- what is fixed of the world outside: the classes, the script, the statics that are read, the String constants -/
def ab_Env (w : ab_Wd) (U : State) (H : Heap) : Prop :=
  va_K w.2.1 ab_cl [] U ∧ va_X w.2.2.2.1 w.2.2.2.2.1 w.2.2.2.2.2.1 U H ∧ w.2.2.2.1 < w.2.2.1 ∧ vx_Zq Bundle.tN "UNASSIGNED_STACK" Bundle.steD (ab_A w) U H ∧ vx_Zq Bundle.tN "SUPPRESSED_SENTINEL" Bundle.listD (ab_A w) U H ∧
  (∀ t ∈ lw_tbl, ab_wk t = true → va_Nw t U) ∧ (∀ q ∈ ab_strs, vk_R q.1 q.2.1 q.2.2.1 (w.2.2.2.2.2.2.1 q.2.2.2) U) ∧ vk_S 8 ab_slen ab_sbyt w.2.2.2.2.2.2.1 w.2.2.2.2.2.2.2 (ab_A w) U H ∧ va_Z "java/lang/String" "COMPACT_STRINGS" "Z" (.int 1) (ab_A w) U H ∧ va_AO "java/lang/String" U ∧ (∀ q ∈ ab_ncs, va_Nc q.1 q.2 U) ∧ va_Zq "jdk/internal/util/Preconditions" "SIOOBE_FORMATTER" "Ljava/util/function/BiFunction;" (ab_A w) U H
theorem ab_Nw_warm {t : Cond} {s U : State} (hW : s.WarmedH U.vm) (ht : ab_wk t = true) (h : va_Nw t s) : va_Nw t U := by
  cases t with
  | methodLinkNest a b c e => exact h.warmM hW
  | declares x => exact h.warmD hW
  | castable a b => exact h.warmC hW
  | _ => cases ht
theorem ab_Nw_same {t : Cond} {s U : State} (hW : s.vm = U.vm) (ht : ab_wk t = true) (h : va_Nw t s) : va_Nw t U := by
  cases t with
  | methodLinkNest a b c e => exact h.same rfl hW
  | declares x => exact h.same rfl hW
  | castable a b => exact h.same rfl hW
  | _ => cases ht
theorem ab_Env_call {w : ab_Wd} {s U : State} {locs : List Loc} (hW : s.WarmedH U.vm) (hN : w.2.2.1 ≤ s.heap.size) (hS : va_S (ab_A w) s.heap U.heap locs) (h : ab_Env w s s.heap) : ab_Env w U U.heap := by
  obtain ⟨h1, h2, h3, h4, h5, h6, h7, h8, h9, h10, h11, h12⟩ := h
  have hk : ∀ a : Nat, a < s.heap.size → ¬ ab_A w a → U.heap[a]? = s.heap[a]? := hS.2.1
  exact ⟨h1.moved hW.alike, (h2.kept (hk _ (Nat.lt_of_lt_of_le h3 hN) (Nat.not_le.mpr h3))).moved hW.alike, h3, (h4.kept hk).moved hW.alike, (h5.kept hk).moved hW.alike, fun t ht hk => ab_Nw_warm hW hk (h6 t ht hk), fun q hq => (h7 q hq).warm hW, (h8.kept hk).moved hW.alike, (h9.kept hk).moved hW.alike, h10.moved hW.alike, fun q hq => (h11 q hq).moved hW.alike, (h12.kept hk).moved hW.alike⟩
theorem ab_Env_same {w : ab_Wd} {s U : State} (hv : s.vm = U.vm) (hh : s.heap = U.heap) (h : ab_Env w s s.heap) : ab_Env w U U.heap := by
  obtain ⟨h1, h2, h3, h4, h5, h6, h7, h8, h9, h10, h11, h12⟩ := h
  have hA : s.vm.Alike U.vm := by rw [hv]; exact Vm.Alike.refl _
  rw [← hh]
  exact ⟨h1.moved hA, h2.moved hA, h3, h4.moved hA, h5.moved hA, fun t ht hk => ab_Nw_same hv hk (h6 t ht hk), fun q hq => (h7 q hq).same hv.symm, h8.moved hA, h9.moved hA, h10.moved hA, fun q hq => (h11 q hq).moved hA, h12.moved hA⟩
abbrev ab_Me : Type := MethodName × ByteArray × Nat × Option FieldType
def ab_bc (me : ab_Me) : ByteArray := me.2.1
def ab_ml (me : ab_Me) : Nat := me.2.2.1
/-- the handlers of the law's own helpers; no other method has any -/
def ab_hl : List (String × List (Nat × Nat × Nat × Nat)) := [("net", [(0, 9, 12, 13)]), ("count", [(0, 9, 12, 18)]), ("cable", [(0, 10, 13, 18)]), ("ring", [(0, 10, 13, 18)]), ("taken", [(0, 9, 12, 18)]), ("site", [(0, 10, 13, 18)]), ("way", [(0, 12, 15, 18)]), ("firm", [(0, 10, 13, 18)]), ("share", [(0, 9, 12, 18)]), ("group", [(0, 10, 13, 13), (0, 10, 17, 18)]), ("without", [(0, 10, 13, 18)]), ("told", [(0, 9, 12, 18)]), ("joined", [(0, 9, 12, 13)]), ("swap", [(0, 10, 13, 18)]), ("fits", [(0, 10, 13, 18), (0, 10, 17, 61)]), ("look", [(0, 9, 12, 18), (0, 9, 15, 61)]), ("years", [(0, 12, 15, 18), (0, 12, 19, 13)])]
def ab_hh (me : ab_Me) : List (Nat × Nat × Nat × Nat) := if me.1.cls = "CableKeeperLaw" then (match ab_hl.find? (fun q => q.1 == me.1.name) with
  | some q => q.2
  | none => []) else []
def ab_Cx (w : ab_Wd) (d : Nat) (me : ab_Me) (p : Program) (R : Room) (s : State) (m : MethodId) (args : Array Value) (meth : Method) (c : Code) : Prop :=
  p.tables.exec = Jvm.exec ∧ c.code = ab_bc me ∧ c.maxLocals = ab_ml me ∧ meth.sig.returnType = me.2.2.2 ∧ s.vm.findClass me.1.cls = some m.cls ∧ (∀ t ∈ ab_T, t.before args s = true) ∧ meth.locks = false ∧ meth.name = me.1.name ∧ c.exceptionTable.toList = tableOf (ab_hh me) ∧ w.2.2.1 ≤ s.heap.size ∧ ab_Env w s s.heap ∧ d ≤ R.frames ∧ 64 * d ≤ R.locals ∧ w.1.stackTraces = false
/-- the locals: .null where nothing is known -/
def ab_Lo (ad : Nat → Nat) (ls : List Value) (lsA : Array Slot) (n : Nat) : Prop := lsA.size = n ∧ lv_wf lsA ∧ ls.length = n ∧ ∀ (i : Nat) (v : Value), ls[i]? = some v → v ≠ .null → lsA[i]? = some (.val (ab_v ad v))
def ab_Ext (n0 : Nat) (dom0 : List Nat) (ad0 : Nat → Nat) (cA0 : Nat → ClassId) (dom : List Nat) (ad : Nat → Nat) (cA : Nat → ClassId) : Prop := (∀ i ∈ dom0, i ∈ dom) ∧ ∀ i, ab_bl i ≤ n0 → ad i = ad0 i ∧ cA i = cA0 i
def ab_Qc (w : ab_Wd) (res : ab_Re) (n0 : Nat) (dom0 : List Nat) (ad0 : Nat → Nat) (cA0 : Nat → ClassId) : Array Value → State → Outcome → State → Prop := fun _ st o t =>
  (∃ (rv : Option Value) (ad : Nat → Nat) (cA : Nat → ClassId) (dom : List Nat), res.1 = .inl rv ∧ o = .returned (rv.map (ab_v ad)) ∧ ab_Ext n0 dom0 ad0 cA0 dom ad cA ∧ ab_Rel w ad cA dom res.2 t t.heap ∧ ∀ v, rv = some v → ab_ok dom res.2.2.2.2.1 v) ∧ va_F (ab_A w) st t
def ab_XC (w : ab_Wd) (res : ab_Re) (n0 : Nat) (dom0 : List Nat) (ad0 : Nat → Nat) (cA0 : Nat → ClassId) : String → State → State → Prop := fun E st t =>
  (∃ (ad : Nat → Nat) (cA : Nat → ClassId) (dom : List Nat), res.1 = .inr E ∧ ab_Ext n0 dom0 ad0 cA0 dom ad cA ∧ ab_Rel w ad cA dom res.2 t t.heap) ∧ va_F (ab_A w) st t
/-- where the walk stands -/
def ab_At (w : ab_Wd) (me : ab_Me) (ls st : List Value) (M : ab_M) (res : ab_Re) (R : Room) (s : State) (n0 : Nat) (dom0 : List Nat) (ad0 : Nat → Nat) (cA0 : Nat → ClassId) (c0 s0 : Nat) (ad : Nat → Nat) (cA : Nat → ClassId) (dom : List Nat) (H : Heap) (locs : List Loc) (lsA : Array Slot) (cells slots : Nat) : Prop :=
  ab_Rel w ad cA dom M s H ∧ va_S (ab_A w) s.heap H locs ∧ ab_Lo ad ls lsA (ab_ml me) ∧ (∀ v ∈ ls, ab_ok dom M.2.2.2.1 v) ∧ (∀ v ∈ st, ab_ok dom M.2.2.2.1 v) ∧ ab_Ext n0 dom0 ad0 cA0 dom ad cA ∧ n0 ≤ M.2.2.2.1 ∧ M.2.2.2.2.1 = c0 + cells ∧ M.2.2.2.2.2 = s0 + slots ∧ res.2.2.2.2.2.1 - c0 ≤ R.cells ∧ res.2.2.2.2.2.2 - s0 ≤ R.slots
/-- FROM HERE TO THE METHOD'S END -/
def ab_E (w : ab_Wd) (d : Nat) (me : ab_Me) (pc : Nat) (ls st : List Value) (M : ab_M) (res : ab_Re) : Prop :=
  ∀ (p : Program) (e : Env) (R : Room) (s : State) (m : MethodId) (args : Array Value) (below : List Frame) (meth : Method) (c : Code), ab_Cx w d me p R s m args meth c →
    ∀ (n0 : Nat) (dom0 : List Nat) (ad0 : Nat → Nat) (cA0 : Nat → ClassId) (c0 s0 : Nat) (ad : Nat → Nat) (cA : Nat → ClassId) (dom : List Nat) (H : Heap) (locs : List Loc) (lsA : Array Slot) (cells slots : Nat), ab_At w me ls st M res R s n0 dom0 ad0 cA0 c0 s0 ad cA dom H locs lsA cells slots →
      W p w.1 e R s m args below meth c H locs cells slots (vx_MQ below (ab_Qc w res n0 dom0 ad0 cA0) (ab_XC w res n0 dom0 ad0 cA0) args s (res.2.2.2.2.2.1 - c0) (res.2.2.2.2.2.2 - s0) (ab_A w)) (F0 m pc lsA (st.map (ab_v ad)))
section ABP
variable {w : ab_Wd} {d : Nat} {me : ab_Me} {pc pc' : Nat} {ls ls' st st' : List Value} {M M' : ab_M} {res : ab_Re}
/-- a row that changes the stack alone -/
theorem ab_pure (hr : ∀ {p : Program} {l : Launch} {e : Env} {R : Room} {s : State} {m : MethodId} {args : Array Value} {below : List Frame} {meth : Method} {c : Code} {H : Heap} {locs : List Loc} {cells slots : Nat} {Q : State → Prop} (lsA : Array Slot) (ad : Nat → Nat), p.tables.exec = Jvm.exec → c.code = ab_bc me → (∀ (i : Nat) (v : Value), ls[i]? = some v → v ≠ .null → lsA[i]? = some (.val (ab_v ad v))) → (s.vm.findClass me.1.cls = some m.cls) → (∀ t ∈ ab_T, t.before args s = true) →
      W p l e R s m args below meth c H locs cells slots Q (F0 m pc' lsA (st'.map (ab_v ad))) → W p l e R s m args below meth c H locs cells slots Q (F0 m pc lsA (st.map (ab_v ad))))
    (hok : ∀ (dom : List Nat) (n : Nat), (∀ v ∈ ls, ab_ok dom n v) → (∀ v ∈ st, ab_ok dom n v) → ∀ v ∈ st', ab_ok dom n v) (k : ab_E w d me pc' ls st' M res) : ab_E w d me pc ls st M res := by
  intro p e R s m args below meth c C n0 dom0 ad0 cA0 c0 s0 ad cA dom H locs lsA cells slots At
  have C1 := C
  obtain ⟨hx, hb, -, -, hown, hts, -⟩ := C1
  obtain ⟨a1, a2, a3, a4, a5, a6, a7, a8, a9, a10, a11⟩ := At
  exact hr lsA ad hx hb a3.2.2.2 hown hts (k p e R s m args below meth c C n0 dom0 ad0 cA0 c0 s0 ad cA dom H locs lsA cells slots ⟨a1, a2, a3, a4, hok dom _ a4 a5, a6, a7, a8, a9, a10, a11⟩)
end ABP
