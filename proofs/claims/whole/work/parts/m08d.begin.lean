/-! FROM THE LAW'S ENTRY: what the Statement gives is the abstract machine's world -/
def ab_tm (i : Nat) : Term := match i with
  | 0 => .string "CableKeeper$Reader" 56
  | 1 => .string "CableKeeper$Reader" 65
  | 2 => .string "CableKeeper$Reader" 70
  | 3 => .string "CableKeeper$Teller" 19
  | 4 => .string "CableKeeper$Teller" 38
  | 5 => .string "CableKeeper$Teller" 44
  | 6 => .string "CableKeeper$Teller" 33
  | _ => .string "CableKeeper$Teller" 59
def ab_fl : List Cond := flatC (Jvm.Cond.and given_1 narrow_1)
theorem fl_ex : ∀ i, i < 8 → Cond.exactly (ab_tm i) "java/lang/String" ∈ ab_fl := by decide +kernel
theorem fl_co : ∀ i, i < 8 → Cond.eq (.field (ab_tm i) "java/lang/String" "coder" "B") (.int 0) ∈ ab_fl := by decide +kernel
theorem fl_ar : ∀ i, i < 8 → Cond.arrayOf (.field (ab_tm i) "java/lang/String" "value" "[B") .byte ∈ ab_fl := by decide +kernel
theorem fl_le : ∀ i, i < 8 → Cond.eq (.length (.field (ab_tm i) "java/lang/String" "value" "[B")) (.int (Int32.ofNat (ab_slen.getD i 0))) ∈ ab_fl := by decide +kernel
theorem fl_el : ∀ i, i < 8 → ∀ j, j < ab_slen.getD i 0 → Cond.eq (.elem (.field (ab_tm i) "java/lang/String" "value" "[B") (.int (Int32.ofNat j))) (.int ((ab_sbyt.getD i []).getD j 0)) ∈ ab_fl := by decide +kernel
theorem fl_ne : ∀ i, i < 8 → ∀ j, j < 8 → i ≠ j → Cond.not (Cond.eq (ab_tm i) (ab_tm j)) ∈ ab_fl ∨ Cond.not (Cond.eq (ab_tm j) (ab_tm i)) ∈ ab_fl := by decide +kernel
theorem fl_eq : ∀ q ∈ ab_strs, ab_tm q.2.2.2 = .string q.1 q.2.1 ∨ Cond.eq (ab_tm q.2.2.2) (.string q.1 q.2.1) ∈ ab_fl ∨ Cond.eq (.string q.1 q.2.1) (ab_tm q.2.2.2) ∈ ab_fl := by decide +kernel
theorem fl_sr : ∀ q ∈ ab_strs, Cond.stringRef q.1 q.2.1 q.2.2.1 ∈ lw_tbl := by decide +kernel
theorem fl_nc : ∀ q ∈ ab_ncs, Cond.not (.castable q.1 q.2) ∈ ab_fl := by decide +kernel
theorem fl_us : Cond.isRef (.static Bundle.tN "UNASSIGNED_STACK" Bundle.steD) ∈ ab_fl := by decide +kernel
theorem fl_ss : Cond.isRef (.static Bundle.tN "SUPPRESSED_SENTINEL" Bundle.listD) ∈ ab_fl := by decide +kernel
theorem fl_fm : Cond.isRef (.static "jdk/internal/util/Preconditions" "SIOOBE_FORMATTER" "Ljava/util/function/BiFunction;") ∈ ab_fl := by decide +kernel
theorem fl_cs : Cond.eq (.static "java/lang/String" "COMPACT_STRINGS" "Z") (.int 1) ∈ ab_fl := by decide +kernel
theorem tb_us : Cond.laysStatic Bundle.tN "UNASSIGNED_STACK" Bundle.steD ∈ lw_tbl := by decide +kernel
theorem tb_ss : Cond.laysStatic Bundle.tN "SUPPRESSED_SENTINEL" Bundle.listD ∈ lw_tbl := by decide +kernel
theorem tb_fm : Cond.laysStatic "jdk/internal/util/Preconditions" "SIOOBE_FORMATTER" "Ljava/util/function/BiFunction;" ∈ lw_tbl := by decide +kernel
theorem tb_cs : Cond.laysStatic "java/lang/String" "COMPACT_STRINGS" "Z" ∈ lw_tbl := by decide +kernel
theorem tb_it : Cond.initialized Bundle.tN ∈ lw_tbl := by decide +kernel
theorem tb_ip : Cond.initialized "jdk/internal/util/Preconditions" ∈ lw_tbl := by decide +kernel
theorem tb_is : Cond.initialized "java/lang/String" ∈ lw_tbl := by decide +kernel
theorem tb_ao : Cond.arrayOver (.object "java/lang/String") ∈ lw_tbl := by decide +kernel
theorem tb_in : ∀ c, c < 12 → Cond.instantiable (ab_R c) (ab_nf c) ∈ lw_tbl := by decide +kernel
theorem ab_eq_eval {args : Array Value} {s : State} {a b : Term} {x : Nat} (h : (Cond.eq a b).before args s = true) (ha : a.eval args s none [] s = some (.ref x)) : b.eval args s none [] s = some (.ref x) := by
  cases hv : b.eval args s none [] s with
  | none => simp [Cond.before, Cond.holds, Cond.value, ha, hv] at h
  | some v =>
    simp only [Cond.before, Cond.holds, Cond.value, ha, hv] at h
    cases v <;> simp_all
theorem ab_eq_eval' {args : Array Value} {s : State} {a b : Term} {x : Nat} (h : (Cond.eq b a).before args s = true) (ha : a.eval args s none [] s = some (.ref x)) : b.eval args s none [] s = some (.ref x) := by
  cases hv : b.eval args s none [] s with
  | none => simp [Cond.before, Cond.holds, Cond.value, ha, hv] at h
  | some v =>
    simp only [Cond.before, Cond.holds, Cond.value, ha, hv] at h
    cases v <;> simp_all
theorem ab_wk_on {t : Cond} (h : ab_wk t = true) : t.onTables = true := by
  cases t with
  | methodLinkNest a b c e => rfl
  | declares x => rfl
  | castable a b => rfl
  | _ => cases h
/-- the world at the law's entry -/
theorem ab_begin {s : State} (l : Launch) {b L : Nat} {xs : Nat → Int32} (hts : ∀ t ∈ lw_tbl, t.before #[Value.ref b] s = true) (hX : va_X b L xs s s.heap) (hbl : b < s.heap.size) (hgv : (Jvm.Cond.and given_1 narrow_1).before #[Value.ref b] s = true) :
    ∃ (D : va_G) (adK adV : Nat → Nat), ab_Env (l, D, s.heap.size, b, L, xs, adK, adV) s s.heap := by
  have hfl : ∀ t ∈ ab_fl, t.before #[Value.ref b] s = true := flat_of_before _ hgv
  have hA : ∀ a : Nat, a < s.heap.size → ¬ (fun q => s.heap.size ≤ q) a := fun a h => Nat.not_le.mpr h
  have htT : ∀ t ∈ ab_T, t.before #[Value.ref b] s = true := fun t ht => hts t (List.mem_filter.mp ht).1
  have hkn : ∀ c : Nat, ∃ q : ClassId × (Nat → Nat), c < 12 → u_Kn s (ab_R c) (ab_Tf c) (ab_nf c) q.1 q.2 := by
    intro c
    by_cases h : c < 12
    · obtain ⟨cC, iS, hk⟩ := u_known htT (ab_in c h) (hts _ (tb_in c h))
      exact ⟨(cC, iS), fun _ => hk⟩
    · exact ⟨(0, fun _ => 0), fun g => absurd g h⟩
  obtain ⟨f, hf⟩ := Classical.axiomOfChoice hkn
  have hK : va_K (fun c => (f c).1, fun c => (f c).2) ab_cl [] s := by
    refine ⟨fun c q hq => ?_, fun k q h => by simp at h⟩
    have hc : c < 12 := (List.getElem?_eq_some_iff.mp hq).1
    rw [ab_cl_at c hc] at hq
    cases hq
    exact hf c hc
  obtain ⟨adK, adV, hS, hev⟩ := vk_Sof (A := fun q => s.heap.size ≤ q) (N := 8) (tm := ab_tm) (len := ab_slen) (byt := ab_sbyt) (args := #[Value.ref b]) (s := s) (by decide) (fun i hi => hfl _ (fl_ex i hi)) (fun i hi => hfl _ (fl_co i hi)) (fun i hi => hfl _ (fl_ar i hi)) (fun i hi => hfl _ (fl_le i hi)) (fun i hi j hj => hfl _ (fl_el i hi j hj)) (fun i j hi hj hne => (fl_ne i hi j hj hne).imp (hfl _) (hfl _)) hA
  refine ⟨(fun c => (f c).1, fun c => (f c).2), adK, adV, hK, hX, hbl, vx_Zqof (hts _ tb_us) (hts _ tb_it) (hfl _ fl_us) hA, vx_Zqof (hts _ tb_ss) (hts _ tb_it) (hfl _ fl_ss) hA, fun t ht hk => va_Nw.of (ab_wk_on hk) (hts t ht), fun q hq => ?_, hS, va_Zof (hts _ tb_cs) (hts _ tb_is) (va_eqi (hfl _ fl_cs)) hA, va_AO.of (hts _ tb_ao), fun q hq => va_Nc.of (hfl _ (fl_nc q hq)), va_Zqof (hts _ tb_fm) (hts _ tb_ip) (hfl _ fl_fm) hA⟩
  have hj : q.2.2.2 < 8 := (by decide : ∀ q ∈ ab_strs, q.2.2.2 < 8) q hq
  refine vk_R.of (A := #[Value.ref b]) (hts _ (fl_sr q hq)) ?_
  have h9 := hev _ hj
  rcases fl_eq q hq with e | e | e
  · rw [← e]; exact h9
  · exact ab_eq_eval (hfl _ e) h9
  · exact ab_eq_eval' (hfl _ e) h9
