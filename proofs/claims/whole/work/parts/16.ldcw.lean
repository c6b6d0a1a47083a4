/-! ldc_w of a String constant -/
theorem va_ldcwT {p : Program} {l : Launch} {e : Env} {R : Room} {s : State} {m : MethodId} {args : Array Value} {below : List Frame} {meth : Method} {c : Code} {T : State} {locs : List Loc} {cells slots : Nat} (X : Stand p l e R s m args below meth c T locs cells slots) (hexec : p.tables.exec = Jvm.exec) {own text : String} {index : Nat} {a : Addr} (hown : s.vm.findClass own = some m.cls)
    (hconst : (Cond.stringRef own index text).before #[] s = true) (hev : (Term.string own index).eval #[] s none [] s = some (.ref a)) {g : JFrame} (hg : g.method = m) (hdg : decode c.code g.pc = .ok (.ldc_w index, 3)) :
    ∀ target, Steps p.tables e below (T.setTop { g with pc := g.pc + 3, stack := .ref a :: g.stack }) target → Steps p.tables e below (T.setTop g) target := by
  obtain ⟨k, cf, i, a', hk, hcf, hcp, -, hr, hev'⟩ := Cond.stringRef_spec hown hconst
  cases hev.symm.trans hev'
  obtain ⟨k', hk', he⟩ := X.warmed.alike.2.2 _ _ hk
  have hr' : k'.resolved[index]? = some (some (.string a)) := by
    rcases X.warmed.entry hk hk' index with h | ⟨h, -⟩
    · rw [h]; exact hr
    · rw [hr] at h; cases h
  intro target hrest
  subst hg
  jvm_step X.here [hexec, hdg, ldc_w.wp_string (e := e) (s := T) (f := g) X.here.top hk' (by rw [he]; exact hcf) hcp hr']
  exact hrest
section ABTW
variable {w : ab_Wd} {d : Nat} {me me2 : ab_Me} {pc : Nat} {ls st : List Value} {M M2 : ab_M} {res : ab_Re}
theorem ab_ldcSW {idx j : Nat} {tx : String} (hd : decode (ab_bc me) pc = .ok (.ldc_w idx, 3)) (hj : j < 8) (hq : (me.1.cls, idx, tx, j) ∈ ab_strs) (kk : ab_E w d me (pc + 3) ls (.ref (64 * j + 32) :: st) M res) : ab_E w d me pc ls st M res := by
  intro p e R s m args below meth c C n0 dom0 ad0 cA0 c0 s0 ad cA dom H locs lsA cells slots At
  have C1 := C
  obtain ⟨hx, hb, hml, -, hown, hts, hlk, hnm, htb, hN, hEn, hFr, hLo, hTr⟩ := C1
  obtain ⟨a1, a2, a3, a4, a5, a6, a7, a8, a9, a10, a11⟩ := At
  have hZ := hEn.2.2.2.2.2.2.1 _ hq
  have e1 : w.2.2.2.2.2.2.1 j = ad (64 * j + 32) := (a1.2.2.2.2.1 j hj).symm
  have hW := kk p e R s m args below meth c C n0 dom0 ad0 cA0 c0 s0 ad cA dom H locs lsA cells slots ⟨a1, a2, a3, a4, List.forall_mem_cons.mpr ⟨⟨Or.inr (by rw [ab_sid]; exact Nat.le_refl _), by rw [ab_sbl hj]; exact Nat.zero_le _⟩, a5⟩, a6, a7, a8, a9, a10, a11⟩
  have hW2 : W p w.1 e R s m args below meth c H locs cells slots (vx_MQ below (ab_Qc w res n0 dom0 ad0 cA0) (ab_XC w res n0 dom0 ad0 cA0) args s (res.2.2.2.2.2.1 - c0) (res.2.2.2.2.2.2 - s0) (ab_A w)) (F0 m (pc + 3) lsA (.ref (w.2.2.2.2.2.2.1 j) :: st.map (ab_v ad))) := by rw [e1]; exact hW
  intro T hT X
  obtain ⟨t, b1, b2⟩ := hW2 T hT X
  exact ⟨t, va_ldcwT X hx hown hZ.1 hZ.2 (g := F0 m pc lsA (st.map (ab_v ad))) rfl (by rw [hb]; exact hd) t b1, b2⟩
end ABTW
