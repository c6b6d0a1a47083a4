/-! JOINED: the cheapest tree over some sites -/
/-- trees that grow leaf by leaf -/
def AT (ds : Nat → Nat → Nat) (r : Nat) (V : Nat → Prop) (c : Nat) : Prop := ∀ P : (Nat → Prop) → Nat → Prop, P (fun z => z = r) 0 → (∀ V c x y, P V c → ¬ V x → x < 10 → V y → P (fun z => V z ∨ z = x) (c + ds y x)) → P V c
theorem AT_0 {ds : Nat → Nat → Nat} {r : Nat} : AT ds r (fun z => z = r) 0 := fun P h _ => h
theorem AT_s {ds : Nat → Nat → Nat} {r : Nat} {V : Nat → Prop} {c x y : Nat} (h : AT ds r V c) (hx : ¬ V x) (hl : x < 10) (hy : V y) : AT ds r (fun z => V z ∨ z = x) (c + ds y x) := fun P h1 h2 => h2 V c x y (h P h1 h2) hx hl hy
theorem AT_congr {ds : Nat → Nat → Nat} {r : Nat} {V W : Nat → Prop} {c : Nat} (h : ∀ x, V x ↔ W x) (g : AT ds r V c) : AT ds r W c := by
  have : V = W := funext fun x => propext (h x)
  rw [← this]; exact g
theorem prim_ex {In L : Nat → Prop} {F : List Nat} {q : Nat} (hq : L q) (hd : ∀ x, In x → ¬ L x) (hF : ∀ k ∈ F, (In (cE1 k) ∨ L (cE1 k)) ∧ (In (cE2 k) ∨ L (cE2 k))) (hc : ∀ x, L x → ∃ y, In y ∧ cn cE1 cE2 (fun k => k ∈ F) x y) :
    ∃ e ∈ F, ∃ x y, ed cE1 cE2 e x y ∧ L x ∧ In y ∧ ∀ z, L z → ∃ y, (In y ∨ y = q) ∧ cn cE1 cE2 (fun k => k ∈ F ∧ k ≠ e) z y := by
  have hCL : ∀ z, cn cE1 cE2 (fun k => k ∈ F ∧ L (cE1 k) ∧ L (cE2 k)) q z → L z := fun z h => h L (fun c hc => ⟨fun _ => hc.2.2, fun _ => hc.2.1⟩) hq
  have hex : ∃ e ∈ F, ∃ x y, ed cE1 cE2 e x y ∧ cn cE1 cE2 (fun k => k ∈ F ∧ L (cE1 k) ∧ L (cE2 k)) q x ∧ In y := by
    refine Classical.byContradiction fun hno => ?_
    obtain ⟨y, hy, hqy⟩ := hc q hq
    refine hd y hy (hCL y (hqy (fun z => cn cE1 cE2 (fun k => k ∈ F ∧ L (cE1 k) ∧ L (cE2 k)) q z) (fun k hk => ⟨fun h => ?_, fun h => ?_⟩) cn_refl))
    · have h1 := hCL _ h
      rcases (hF k hk).2 with h2 | h2
      · exact absurd ⟨k, hk, _, _, Or.inl ⟨rfl, rfl⟩, h, h2⟩ hno
      · exact cn_trans h (cn_edge ⟨hk, h1, h2⟩)
    · have h1 := hCL _ h
      rcases (hF k hk).1 with h2 | h2
      · exact absurd ⟨k, hk, _, _, Or.inr ⟨rfl, rfl⟩, h, h2⟩ hno
      · exact cn_trans h (cn_symm (cn_edge ⟨hk, h2, h1⟩))
  obtain ⟨e, he, x, y, h1, h2, h3⟩ := hex
  refine ⟨e, he, x, y, h1, hCL x h2, h3, fun z hz => Classical.byContradiction fun hno => ?_⟩
  have hqx : cn cE1 cE2 (fun k => k ∈ F ∧ k ≠ e) x q := cn_symm (cn_mono (fun k hk => ⟨hk.1, fun ee => by
    subst ee
    rcases h1 with ⟨a, b⟩ | ⟨a, b⟩
    · rw [b] at h3; exact hd _ h3 hk.2.2
    · rw [b] at h3; exact hd _ h3 hk.2.1⟩) h2)
  have nx : ¬ cn cE1 cE2 (fun k => k ∈ F ∧ k ≠ e) z x := fun h => hno ⟨q, Or.inr rfl, cn_trans h hqx⟩
  have ny : ¬ cn cE1 cE2 (fun k => k ∈ F ∧ k ≠ e) z y := fun h => hno ⟨y, Or.inl h3, h⟩
  obtain ⟨y0, hy0, hzy⟩ := hc z hz
  refine hno ⟨y0, Or.inl hy0, hzy (fun v => cn cE1 cE2 (fun k => k ∈ F ∧ k ≠ e) z v) (fun k hk => ?_) cn_refl⟩
  by_cases ee : k = e
  · subst ee
    rcases h1 with ⟨a, b⟩ | ⟨a, b⟩
    · rw [a] at nx; rw [b] at ny; exact ⟨fun h => absurd h nx, fun h => absurd h ny⟩
    · rw [a] at nx; rw [b] at ny; exact ⟨fun h => absurd h ny, fun h => absurd h nx⟩
  · have := cn_edge (e1 := cE1) (e2 := cE2) (E := fun k => k ∈ F ∧ k ≠ e) ⟨hk, ee⟩
    exact ⟨fun h => cn_trans h this, fun h => cn_trans h (cn_symm this)⟩
theorem wtF_erase (ds : Nat → Nat → Nat) {F : List Nat} {e : Nat} : e ∈ F → wtF ds F = ds (cE1 e) (cE2 e) + wtF ds (F.erase e) := by
  induction F with
  | nil => intro h; cases h
  | cons k F ih =>
    intro h
    by_cases ee : k = e
    · subst ee; rw [List.erase_cons_head]; rfl
    · have hm : e ∈ F := by
        rcases List.mem_cons.mp h with h | h
        · exact absurd h.symm ee
        · exact h
      rw [List.erase_cons_tail (by simp [ee])]
      show ds (cE1 k) (cE2 k) + wtF ds F = ds (cE1 e) (cE2 e) + (ds (cE1 k) (cE2 k) + wtF ds (F.erase e))
      rw [ih hm]; omega
/-- one leg of the growing tree is one that any tree must pay -/
theorem prim_st {ds : Nat → Nat → Nat} {In L : Nat → Prop} {F : List Nat} {q R : Nat} {f : Nat → Nat} (hsy : ∀ x y, ds x y = ds y x) (hq : L q) (hd : ∀ x, In x → ¬ L x) (hmin : ∀ x, L x → f q ≤ f x) (hf : ∀ x y, L x → In y → f x ≤ ds y x) (hF : ∀ k ∈ F, (In (cE1 k) ∨ L (cE1 k)) ∧ (In (cE2 k) ∨ L (cE2 k))) (hc : ∀ x, L x → ∃ y, In y ∧ cn cE1 cE2 (fun k => k ∈ F) x y)
    (ih : ∀ G : List Nat, (∀ k ∈ G, ((In (cE1 k) ∨ cE1 k = q) ∨ (L (cE1 k) ∧ cE1 k ≠ q)) ∧ ((In (cE2 k) ∨ cE2 k = q) ∨ (L (cE2 k) ∧ cE2 k ≠ q))) → (∀ x, L x ∧ x ≠ q → ∃ y, (In y ∨ y = q) ∧ cn cE1 cE2 (fun k => k ∈ G) x y) → R ≤ wtF ds G) : f q + R ≤ wtF ds F := by
  obtain ⟨e, he, x, y, h1, h2, h3, h4⟩ := prim_ex hq hd hF hc
  have hR := ih (F.erase e) (fun k hk => by
    have hk' := hF k (List.mem_of_mem_erase hk)
    have conv : ∀ z, (In z ∨ L z) → ((In z ∨ z = q) ∨ (L z ∧ z ≠ q)) := fun z hz => by
      by_cases ez : z = q
      · exact Or.inl (Or.inr ez)
      · exact hz.elim (fun h => Or.inl (Or.inl h)) (fun h => Or.inr ⟨h, ez⟩)
    exact ⟨conv _ hk'.1, conv _ hk'.2⟩) (fun z hz => by
    obtain ⟨y, hy, hc⟩ := h4 z hz.1
    exact ⟨y, hy, cn_mono (fun k hk => (List.mem_erase_of_ne hk.2).mpr hk.1) hc⟩)
  rw [wtF_erase ds he]
  have l1 := hmin x h2
  have l2 := hf x y h2 h3
  have l3 : ds (cE1 e) (cE2 e) = ds y x := by
    rcases h1 with ⟨a, b⟩ | ⟨a, b⟩
    · rw [a, b]; exact hsy _ _
    · rw [a, b]
  omega
/-! loads that are brought together -/
def unB (B : Nat → Nat) : Nat → Nat
  | 0 => 0
  | n + 1 => unB B n ||| B n
theorem unB_tb (B : Nat → Nat) (i : Nat) : ∀ n, (unB B n).testBit i = true ↔ ∃ z, z < n ∧ (B z).testBit i = true := by
  intro n
  induction n with
  | zero => rw [unB, Nat.zero_testBit]; exact ⟨fun h => absurd h (by decide), fun h => by obtain ⟨z, h, -⟩ := h; omega⟩
  | succ n ih =>
    rw [unB, Nat.testBit_or, Bool.or_eq_true, ih]
    constructor
    · rintro (⟨z, h1, h2⟩ | h)
      · exact ⟨z, by omega, h2⟩
      · exact ⟨n, by omega, h⟩
    · rintro ⟨z, h1, h2⟩
      by_cases e : z = n
      · rw [e] at h2; exact Or.inr h2
      · exact Or.inl ⟨z, by omega, h2⟩
theorem smf_up {f : Nat → Nat} {x : Nat} : ∀ {n}, x < n → smf f n = smf (fun z => if z = x then 0 else f z) n + f x := by
  have same : ∀ {f g : Nat → Nat} {n}, (∀ z, z < n → f z = g z) → smf f n = smf g n := by
    intro f g n
    induction n with
    | zero => intro _; rfl
    | succ n ih => intro h; rw [smf, smf, ih (fun z hz => h z (by omega)), h n (by omega)]
  intro n
  induction n with
  | zero => intro h; omega
  | succ n ih =>
    intro h
    rw [smf, smf]
    by_cases e : x = n
    · subst e
      rw [if_pos rfl, same (f := f) (g := fun z => if z = x then 0 else f z) (fun z hz => by rw [if_neg (by omega)])]; omega
    · rw [ih (by omega), if_neg (fun h => e h.symm)]; omega
section LOD
variable {jv : Nat → Nat → Nat} {ds : Nat → Nat → Nat} {all : Nat}
def j0 (jv : Nat → Nat → Nat) (A s : Nat) : Nat := if A = 0 then 0 else jv A s
def sbs (all A : Nat) : Prop := ∀ x, A.testBit x = true → all.testBit x = true
theorem AT_load (hsy : ∀ x y, ds x y = ds y x) (h2 : ∀ A s t, A ≠ 0 → sbs all A → s < 10 → t < 10 → jv A t ≤ jv A s + ds s t) (h3 : ∀ B C s, B ≠ 0 → C ≠ 0 → B &&& C = 0 → sbs all (B ||| C) → s < 10 → jv (B ||| C) s ≤ jv B s + jv C s) {r : Nat} {V : Nat → Prop} {c : Nat} (hr : r < 10) (h : AT ds r V c) :
    (∀ x, V x → x < 10) ∧ V r ∧ ∀ B : Nat → Nat, (∀ x, ¬ V x → B x = 0) → (∀ x y, x ≠ y → B x &&& B y = 0) → (∀ x, sbs all (B x)) → j0 jv (unB B 10) r ≤ smf (fun x => j0 jv (B x) x) 10 + c := by
  have j2 : ∀ A s t, sbs all A → s < 10 → t < 10 → j0 jv A t ≤ j0 jv A s + ds s t := by
    intro A s t hA hs ht
    unfold j0
    by_cases e : A = 0
    · rw [if_pos e]; exact Nat.zero_le _
    · rw [if_neg e, if_neg e]; exact h2 A s t e hA hs ht
  have j3 : ∀ B C s, B &&& C = 0 → sbs all (B ||| C) → s < 10 → j0 jv (B ||| C) s ≤ j0 jv B s + j0 jv C s := by
    intro B C s hd hs h10
    unfold j0
    by_cases eB : B = 0
    · subst eB; rw [Nat.zero_or, if_pos rfl]; omega
    · by_cases eC : C = 0
      · subst eC; rw [Nat.or_zero, if_pos (rfl : (0 : Nat) = 0)]; omega
      · have : B ||| C ≠ 0 := fun e => eB (Nat.eq_of_testBit_eq fun i => by
          have := congrArg (fun n => n.testBit i) e
          simp only [Nat.testBit_or, Nat.zero_testBit] at this ⊢
          cases hb : B.testBit i <;> simp_all)
        rw [if_neg this, if_neg eB, if_neg eC]; exact h3 B C s eB eC hd hs h10
  refine h (fun V c => (∀ x, V x → x < 10) ∧ V r ∧ ∀ B : Nat → Nat, (∀ x, ¬ V x → B x = 0) → (∀ x y, x ≠ y → B x &&& B y = 0) → (∀ x, sbs all (B x)) → j0 jv (unB B 10) r ≤ smf (fun x => j0 jv (B x) x) 10 + c) ?_ ?_
  · refine ⟨fun x hx => by rw [hx]; exact hr, rfl, fun B hB _ _ => ?_⟩
    have e : unB B 10 = B r := Nat.eq_of_testBit_eq fun i => Bool.eq_iff_iff.mpr (by
      rw [unB_tb]
      constructor
      · rintro ⟨z, h1, h2⟩
        by_cases ez : z = r
        · rw [ez] at h2; exact h2
        · rw [hB z ez, Nat.zero_testBit] at h2; cases h2
      · intro hb; exact ⟨r, hr, hb⟩)
    rw [e, smf_up (f := fun x => j0 jv (B x) x) hr]; omega
  · rintro V c x y ⟨i1, i2, i3⟩ hx hx10 hy
    have hyx : y ≠ x := fun e => hx (e ▸ hy)
    have hy10 := i1 y hy
    refine ⟨fun z hz => hz.elim (i1 z) (fun e => by rw [e]; exact hx10), Or.inl i2, fun B hB hdis hsub => ?_⟩
    -- the load of x goes to y
    generalize hB' : (fun z => if z = x then 0 else if z = y then B y ||| B x else B z) = B'
    have bx : B' x = 0 := by rw [← hB']; exact if_pos rfl
    have by' : B' y = B y ||| B x := by rw [← hB']; show (if y = x then 0 else if y = y then B y ||| B x else B y) = _; rw [if_neg hyx, if_pos rfl]
    have bo : ∀ z, z ≠ x → z ≠ y → B' z = B z := fun z h1 h2 => by rw [← hB']; show (if z = x then 0 else if z = y then B y ||| B x else B z) = _; rw [if_neg h1, if_neg h2]
    have hyxd : B y &&& B x = 0 := hdis y x hyx
    have hsyx : sbs all (B y ||| B x) := fun i hi => by
      rw [Nat.testBit_or, Bool.or_eq_true] at hi
      exact hi.elim (hsub y i) (hsub x i)
    have orz : ∀ {p q t : Nat}, p &&& t = 0 → q &&& t = 0 → (p ||| q) &&& t = 0 := fun {p q t} h1 h2 => by rw [Nat.and_comm, Nat.and_or_distrib_left, Nat.and_comm t p, Nat.and_comm t q, h1, h2]; rfl
    have key := i3 B' (fun z hz => by
        by_cases e : z = x
        · rw [e]; exact bx
        · have ez : z ≠ y := fun e => hz (e ▸ hy)
          rw [bo z e ez]; exact hB z (fun h => h.elim hz e)) (fun u v huv => by
        by_cases eu : u = x
        · rw [eu, bx, Nat.zero_and]
        · by_cases ev : v = x
          · rw [ev, bx, Nat.and_zero]
          · by_cases eu' : u = y
            · have ev' : v ≠ y := fun e => huv (eu'.trans e.symm)
              rw [eu', by', bo v ev ev']
              exact orz (hdis y v (fun e => ev' e.symm)) (hdis x v (fun e => ev e.symm))
            · by_cases ev' : v = y
              · rw [ev', by', bo u eu eu', Nat.and_comm]
                exact orz (hdis y u (fun e => eu' e.symm)) (hdis x u (fun e => eu e.symm))
              · rw [bo u eu eu', bo v ev ev']; exact hdis u v huv) (fun z => by
        by_cases e : z = x
        · rw [e, bx]; intro i hi; rw [Nat.zero_testBit] at hi; cases hi
        · by_cases e' : z = y
          · rw [e', by']; exact hsyx
          · rw [bo z e e']; exact hsub z)
    have eu : unB B' 10 = unB B 10 := Nat.eq_of_testBit_eq fun i => Bool.eq_iff_iff.mpr (by
      rw [unB_tb, unB_tb]
      constructor
      · rintro ⟨z, h1, h2⟩
        by_cases e : z = x
        · rw [e, bx, Nat.zero_testBit] at h2; cases h2
        · by_cases e' : z = y
          · rw [e', by', Nat.testBit_or, Bool.or_eq_true] at h2
            rcases h2 with h2 | h2
            · exact ⟨y, hy10, h2⟩
            · exact ⟨x, hx10, h2⟩
          · rw [bo z e e'] at h2; exact ⟨z, h1, h2⟩
      · rintro ⟨z, h1, h2⟩
        by_cases e : z = x
        · rw [e] at h2
          exact ⟨y, hy10, by rw [by', Nat.testBit_or, h2, Bool.or_true]⟩
        · by_cases e' : z = y
          · rw [e'] at h2
            exact ⟨y, hy10, by rw [by', Nat.testBit_or, h2, Bool.true_or]⟩
          · exact ⟨z, h1, by rw [bo z e e']; exact h2⟩)
    rw [eu] at key
    -- the sums
    have s1 := smf_up (f := fun z => j0 jv (B z) z) hx10
    have s2 := smf_up (f := fun z => if z = x then 0 else j0 jv (B z) z) hy10
    have s3 := smf_up (f := fun z => j0 jv (B' z) z) hx10
    have s4 := smf_up (f := fun z => if z = x then 0 else j0 jv (B' z) z) hy10
    have eq : (fun z => if z = y then 0 else (fun z => if z = x then 0 else j0 jv (B' z) z) z) = fun z => if z = y then 0 else (fun z => if z = x then 0 else j0 jv (B z) z) z := by
      funext z
      by_cases e' : z = y
      · rw [if_pos e', if_pos e']
      · rw [if_neg e', if_neg e']
        show (if z = x then 0 else j0 jv (B' z) z) = if z = x then 0 else j0 jv (B z) z
        by_cases e : z = x
        · rw [if_pos e, if_pos e]
        · rw [if_neg e, if_neg e, bo z e e']
    rw [eq] at s4
    simp only [if_neg hyx] at s2 s4
    rw [by'] at s4
    have b1 := j3 (B y) (B x) y hyxd hsyx hy10
    have b2 := j2 (B x) x y (hsub x) hx10 hy10
    have b3 := hsy y x
    have k0 : j0 jv (B' x) x = 0 := by rw [bx]; rfl
    omega
theorem AT_joint (hsy : ∀ x y, ds x y = ds y x) (h1 : ∀ x, all.testBit x = true → jv (2 ^ x) x = 0) (h2 : ∀ A s t, A ≠ 0 → sbs all A → s < 10 → t < 10 → jv A t ≤ jv A s + ds s t) (h3 : ∀ B C s, B ≠ 0 → C ≠ 0 → B &&& C = 0 → sbs all (B ||| C) → s < 10 → jv (B ||| C) s ≤ jv B s + jv C s) (hall : all < 2 ^ 10) (h0 : all ≠ 0) {r : Nat} {V : Nat → Prop} {c : Nat} (hr : r < 10) (h : AT ds r V c) (hV : ∀ x, all.testBit x = true → V x) : jv all r ≤ c := by
  obtain ⟨a1, a2, a3⟩ := AT_load hsy h2 h3 hr h
  have tb10 : ∀ i, all.testBit i = true → i < 10 := fun i hi => Classical.byContradiction fun g => by
    rw [Nat.testBit_lt_two_pow (Nat.lt_of_lt_of_le hall (Nat.pow_le_pow_right (by decide) (by omega)))] at hi; cases hi
  have key := a3 (fun x => if all.testBit x = true then 2 ^ x else 0) (fun x hx => if_neg (fun g => hx (hV x g))) (fun x y hxy => by
      show (if all.testBit x = true then 2 ^ x else 0) &&& (if all.testBit y = true then 2 ^ y else 0) = 0
      by_cases e : all.testBit x = true
      · by_cases e' : all.testBit y = true
        · rw [if_pos e, if_pos e']
          refine Nat.eq_of_testBit_eq fun i => ?_
          rw [Nat.testBit_and, Nat.zero_testBit]
          cases hb : (2 ^ x).testBit i with
          | false => rfl
          | true =>
            cases hb' : (2 ^ y).testBit i with
            | false => rfl
            | true => exact absurd ((tb_pow.mp hb).symm.trans (tb_pow.mp hb')) hxy
        · rw [if_neg e', Nat.and_zero]
      · rw [if_neg e, Nat.zero_and]) (fun x i hi => by
      have hi : (if all.testBit x = true then 2 ^ x else 0).testBit i = true := hi
      by_cases e : all.testBit x = true
      · rw [if_pos e] at hi; rw [tb_pow.mp hi]; exact e
      · rw [if_neg e, Nat.zero_testBit] at hi; cases hi)
  have eu : unB (fun x => if all.testBit x = true then 2 ^ x else 0) 10 = all := Nat.eq_of_testBit_eq fun i => Bool.eq_iff_iff.mpr (by
    rw [unB_tb]
    constructor
    · rintro ⟨z, h1, h2⟩
      by_cases e : all.testBit z = true
      · rw [if_pos e] at h2; rw [tb_pow.mp h2]; exact e
      · rw [if_neg e, Nat.zero_testBit] at h2; cases h2
    · intro hb; exact ⟨i, tb10 i hb, by rw [if_pos hb]; exact tb_pow.mpr rfl⟩)
  have es : smf (fun x => j0 jv (if all.testBit x = true then 2 ^ x else 0) x) 10 = 0 := by
    have : ∀ n, smf (fun x => j0 jv (if all.testBit x = true then 2 ^ x else 0) x) n = 0 := by
      intro n
      induction n with
      | zero => rfl
      | succ n ih =>
        rw [smf, ih]
        unfold j0
        by_cases e : all.testBit n = true
        · rw [if_pos e, if_neg (by have := Nat.two_pow_pos n; omega), h1 n e]
        · rw [if_neg e, if_pos rfl]
    exact this 10
  rw [eu, es] at key
  unfold j0 at key
  rw [if_neg h0] at key
  omega
end LOD
