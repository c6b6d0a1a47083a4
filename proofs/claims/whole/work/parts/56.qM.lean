-- CableKeeperModel.copyTo([I[I)V over mx_notedInThen, mx_notedIn
theorem q_M_copyTo_7_0 {w : ab_Wd} {d n nc ns : Nat} {I : Nat → Nat → Int32} {L : Nat → Nat → Int64} {res : ab_Re}  (hc : nc ≤ res.2.2.2.2.2.1) (hs : ns ≤ res.2.2.2.2.2.2)
    (h : ab_E w d mt_M_copyTo 2 [.ref mx_notedInThen, .ref mx_notedIn, .int 0] [] (I, L, ab_RR, n, nc, ns) res) : ab_E w d mt_M_copyTo 0 [.ref mx_notedInThen, .ref mx_notedIn, .null] [] (I, L, ab_RR, n, nc, ns) res := by
  refine ab_iconst (v := 0) d_M_copyTo_0 rfl ?_
  refine ab_istore_n (i := 2) d_M_copyTo_1 rfl (by decide) (Or.inr rfl) ?_
  exact h
theorem q_M_copyTo_7_2 {w : ab_Wd} {d n nc ns : Nat} {I : Nat → Nat → Int32} {L : Nat → Nat → Int64} {res : ab_Re} (v2 : Int32) (hc : nc ≤ res.2.2.2.2.2.1) (hs : ns ≤ res.2.2.2.2.2.2)
    (h : ((8 ≤ v2 → (res = (.inl none, (I, L, ab_RR, n, nc, ns)))) ∧ (¬ 8 ≤ v2 → ((vp_in v2 8) ∧ ab_E w d mt_M_copyTo 2 [.ref mx_notedInThen, .ref mx_notedIn, .int (v2 + 1)] [] ((ab_up I mx_notedInThen v2.toNatClampNeg (I mx_notedIn v2.toNatClampNeg)), L, ab_RR, n, nc, ns) res)))) : ab_E w d mt_M_copyTo 2 [.ref mx_notedInThen, .ref mx_notedIn, .int v2] [] (I, L, ab_RR, n, nc, ns) res := by
  refine ab_iload_n (i := 2) d_M_copyTo_2 rfl rfl ?_
  refine ab_aload_n (i := 0) d_M_copyTo_3 rfl rfl ?_
  refine ab_alen (v := 8) d_M_copyTo_4 (by decide) (by decide) rfl ?_
  refine ab_icmp_ge (tgt := 20) d_M_copyTo_5 (by decide) (fun c1 => ?_) (fun c1 => ?_)
  · have h := h.1 c1
    exact ab_vret d_M_copyTo_20 rfl h
  · have h := h.2 c1
    refine ab_aload_n (i := 0) d_M_copyTo_8 rfl rfl ?_
    refine ab_iload_n (i := 2) d_M_copyTo_9 rfl rfl ?_
    refine ab_aload_n (i := 1) d_M_copyTo_10 rfl rfl ?_
    refine ab_iload_n (i := 2) d_M_copyTo_11 rfl rfl ?_
    have g2 := h.1; have h := h.2
    refine ab_iald d_M_copyTo_12 rfl rfl g2 ?_
    refine ab_iast d_M_copyTo_13 rfl rfl g2 ?_
    refine ab_iinc (i := 2) (v := (v2 + 1)) d_M_copyTo_14 rfl rfl (by decide) (Or.inr rfl) ?_
    refine ab_goto (tgt := 2) d_M_copyTo_17 (by decide) ?_
    exact h
-- CableKeeperModel.copyTo([I[I)V over mx_statusThen, mx_status
theorem q_M_copyTo_8_0 {w : ab_Wd} {d n nc ns : Nat} {I : Nat → Nat → Int32} {L : Nat → Nat → Int64} {res : ab_Re}  (hc : nc ≤ res.2.2.2.2.2.1) (hs : ns ≤ res.2.2.2.2.2.2)
    (h : ab_E w d mt_M_copyTo 2 [.ref mx_statusThen, .ref mx_status, .int 0] [] (I, L, ab_RR, n, nc, ns) res) : ab_E w d mt_M_copyTo 0 [.ref mx_statusThen, .ref mx_status, .null] [] (I, L, ab_RR, n, nc, ns) res := by
  refine ab_iconst (v := 0) d_M_copyTo_0 rfl ?_
  refine ab_istore_n (i := 2) d_M_copyTo_1 rfl (by decide) (Or.inr rfl) ?_
  exact h
theorem q_M_copyTo_8_2 {w : ab_Wd} {d n nc ns : Nat} {I : Nat → Nat → Int32} {L : Nat → Nat → Int64} {res : ab_Re} (v2 : Int32) (hc : nc ≤ res.2.2.2.2.2.1) (hs : ns ≤ res.2.2.2.2.2.2)
    (h : ((3 ≤ v2 → (res = (.inl none, (I, L, ab_RR, n, nc, ns)))) ∧ (¬ 3 ≤ v2 → ((vp_in v2 3) ∧ ab_E w d mt_M_copyTo 2 [.ref mx_statusThen, .ref mx_status, .int (v2 + 1)] [] ((ab_up I mx_statusThen v2.toNatClampNeg (I mx_status v2.toNatClampNeg)), L, ab_RR, n, nc, ns) res)))) : ab_E w d mt_M_copyTo 2 [.ref mx_statusThen, .ref mx_status, .int v2] [] (I, L, ab_RR, n, nc, ns) res := by
  refine ab_iload_n (i := 2) d_M_copyTo_2 rfl rfl ?_
  refine ab_aload_n (i := 0) d_M_copyTo_3 rfl rfl ?_
  refine ab_alen (v := 3) d_M_copyTo_4 (by decide) (by decide) rfl ?_
  refine ab_icmp_ge (tgt := 20) d_M_copyTo_5 (by decide) (fun c1 => ?_) (fun c1 => ?_)
  · have h := h.1 c1
    exact ab_vret d_M_copyTo_20 rfl h
  · have h := h.2 c1
    refine ab_aload_n (i := 0) d_M_copyTo_8 rfl rfl ?_
    refine ab_iload_n (i := 2) d_M_copyTo_9 rfl rfl ?_
    refine ab_aload_n (i := 1) d_M_copyTo_10 rfl rfl ?_
    refine ab_iload_n (i := 2) d_M_copyTo_11 rfl rfl ?_
    have g2 := h.1; have h := h.2
    refine ab_iald d_M_copyTo_12 rfl rfl g2 ?_
    refine ab_iast d_M_copyTo_13 rfl rfl g2 ?_
    refine ab_iinc (i := 2) (v := (v2 + 1)) d_M_copyTo_14 rfl rfl (by decide) (Or.inr rfl) ?_
    refine ab_goto (tgt := 2) d_M_copyTo_17 (by decide) ?_
    exact h
-- CableKeeperModel.copyTo([I[I)V over mx_now, mx_imageRow
theorem q_M_copyTo_9_0 {w : ab_Wd} {d n nc ns : Nat} {I : Nat → Nat → Int32} {L : Nat → Nat → Int64} {res : ab_Re}  (hc : nc ≤ res.2.2.2.2.2.1) (hs : ns ≤ res.2.2.2.2.2.2)
    (h : ab_E w d mt_M_copyTo 2 [.ref mx_now, .ref mx_imageRow, .int 0] [] (I, L, ab_RR, n, nc, ns) res) : ab_E w d mt_M_copyTo 0 [.ref mx_now, .ref mx_imageRow, .null] [] (I, L, ab_RR, n, nc, ns) res := by
  refine ab_iconst (v := 0) d_M_copyTo_0 rfl ?_
  refine ab_istore_n (i := 2) d_M_copyTo_1 rfl (by decide) (Or.inr rfl) ?_
  exact h
theorem q_M_copyTo_9_2 {w : ab_Wd} {d n nc ns : Nat} {I : Nat → Nat → Int32} {L : Nat → Nat → Int64} {res : ab_Re} (v2 : Int32) (hc : nc ≤ res.2.2.2.2.2.1) (hs : ns ≤ res.2.2.2.2.2.2)
    (h : ((399 ≤ v2 → (res = (.inl none, (I, L, ab_RR, n, nc, ns)))) ∧ (¬ 399 ≤ v2 → ((vp_in v2 399) ∧ ab_E w d mt_M_copyTo 2 [.ref mx_now, .ref mx_imageRow, .int (v2 + 1)] [] ((ab_up I mx_now v2.toNatClampNeg (I mx_imageRow v2.toNatClampNeg)), L, ab_RR, n, nc, ns) res)))) : ab_E w d mt_M_copyTo 2 [.ref mx_now, .ref mx_imageRow, .int v2] [] (I, L, ab_RR, n, nc, ns) res := by
  refine ab_iload_n (i := 2) d_M_copyTo_2 rfl rfl ?_
  refine ab_aload_n (i := 0) d_M_copyTo_3 rfl rfl ?_
  refine ab_alen (v := 399) d_M_copyTo_4 (by decide) (by decide) rfl ?_
  refine ab_icmp_ge (tgt := 20) d_M_copyTo_5 (by decide) (fun c1 => ?_) (fun c1 => ?_)
  · have h := h.1 c1
    exact ab_vret d_M_copyTo_20 rfl h
  · have h := h.2 c1
    refine ab_aload_n (i := 0) d_M_copyTo_8 rfl rfl ?_
    refine ab_iload_n (i := 2) d_M_copyTo_9 rfl rfl ?_
    refine ab_aload_n (i := 1) d_M_copyTo_10 rfl rfl ?_
    refine ab_iload_n (i := 2) d_M_copyTo_11 rfl rfl ?_
    have g2 := h.1; have h := h.2
    refine ab_iald d_M_copyTo_12 rfl rfl g2 ?_
    refine ab_iast d_M_copyTo_13 rfl rfl g2 ?_
    refine ab_iinc (i := 2) (v := (v2 + 1)) d_M_copyTo_14 rfl rfl (by decide) (Or.inr rfl) ?_
    refine ab_goto (tgt := 2) d_M_copyTo_17 (by decide) ?_
    exact h
-- CableKeeperModel.copyTo([I[I)V over mx_status, mx_statusThen
theorem q_M_copyTo_10_0 {w : ab_Wd} {d n nc ns : Nat} {I : Nat → Nat → Int32} {L : Nat → Nat → Int64} {res : ab_Re}  (hc : nc ≤ res.2.2.2.2.2.1) (hs : ns ≤ res.2.2.2.2.2.2)
    (h : ab_E w d mt_M_copyTo 2 [.ref mx_status, .ref mx_statusThen, .int 0] [] (I, L, ab_RR, n, nc, ns) res) : ab_E w d mt_M_copyTo 0 [.ref mx_status, .ref mx_statusThen, .null] [] (I, L, ab_RR, n, nc, ns) res := by
  refine ab_iconst (v := 0) d_M_copyTo_0 rfl ?_
  refine ab_istore_n (i := 2) d_M_copyTo_1 rfl (by decide) (Or.inr rfl) ?_
  exact h
theorem q_M_copyTo_10_2 {w : ab_Wd} {d n nc ns : Nat} {I : Nat → Nat → Int32} {L : Nat → Nat → Int64} {res : ab_Re} (v2 : Int32) (hc : nc ≤ res.2.2.2.2.2.1) (hs : ns ≤ res.2.2.2.2.2.2)
    (h : ((3 ≤ v2 → (res = (.inl none, (I, L, ab_RR, n, nc, ns)))) ∧ (¬ 3 ≤ v2 → ((vp_in v2 3) ∧ ab_E w d mt_M_copyTo 2 [.ref mx_status, .ref mx_statusThen, .int (v2 + 1)] [] ((ab_up I mx_status v2.toNatClampNeg (I mx_statusThen v2.toNatClampNeg)), L, ab_RR, n, nc, ns) res)))) : ab_E w d mt_M_copyTo 2 [.ref mx_status, .ref mx_statusThen, .int v2] [] (I, L, ab_RR, n, nc, ns) res := by
  refine ab_iload_n (i := 2) d_M_copyTo_2 rfl rfl ?_
  refine ab_aload_n (i := 0) d_M_copyTo_3 rfl rfl ?_
  refine ab_alen (v := 3) d_M_copyTo_4 (by decide) (by decide) rfl ?_
  refine ab_icmp_ge (tgt := 20) d_M_copyTo_5 (by decide) (fun c1 => ?_) (fun c1 => ?_)
  · have h := h.1 c1
    exact ab_vret d_M_copyTo_20 rfl h
  · have h := h.2 c1
    refine ab_aload_n (i := 0) d_M_copyTo_8 rfl rfl ?_
    refine ab_iload_n (i := 2) d_M_copyTo_9 rfl rfl ?_
    refine ab_aload_n (i := 1) d_M_copyTo_10 rfl rfl ?_
    refine ab_iload_n (i := 2) d_M_copyTo_11 rfl rfl ?_
    have g2 := h.1; have h := h.2
    refine ab_iald d_M_copyTo_12 rfl rfl g2 ?_
    refine ab_iast d_M_copyTo_13 rfl rfl g2 ?_
    refine ab_iinc (i := 2) (v := (v2 + 1)) d_M_copyTo_14 rfl rfl (by decide) (Or.inr rfl) ?_
    refine ab_goto (tgt := 2) d_M_copyTo_17 (by decide) ?_
    exact h
-- CableKeeperModel.copyTo([I[I)V over mx_past, mx_pastThen
theorem q_M_copyTo_11_0 {w : ab_Wd} {d n nc ns : Nat} {I : Nat → Nat → Int32} {L : Nat → Nat → Int64} {res : ab_Re}  (hc : nc ≤ res.2.2.2.2.2.1) (hs : ns ≤ res.2.2.2.2.2.2)
    (h : ab_E w d mt_M_copyTo 2 [.ref mx_past, .ref mx_pastThen, .int 0] [] (I, L, ab_RR, n, nc, ns) res) : ab_E w d mt_M_copyTo 0 [.ref mx_past, .ref mx_pastThen, .null] [] (I, L, ab_RR, n, nc, ns) res := by
  refine ab_iconst (v := 0) d_M_copyTo_0 rfl ?_
  refine ab_istore_n (i := 2) d_M_copyTo_1 rfl (by decide) (Or.inr rfl) ?_
  exact h
theorem q_M_copyTo_11_2 {w : ab_Wd} {d n nc ns : Nat} {I : Nat → Nat → Int32} {L : Nat → Nat → Int64} {res : ab_Re} (v2 : Int32) (hc : nc ≤ res.2.2.2.2.2.1) (hs : ns ≤ res.2.2.2.2.2.2)
    (h : ((15960 ≤ v2 → (res = (.inl none, (I, L, ab_RR, n, nc, ns)))) ∧ (¬ 15960 ≤ v2 → ((vp_in v2 15960) ∧ ab_E w d mt_M_copyTo 2 [.ref mx_past, .ref mx_pastThen, .int (v2 + 1)] [] ((ab_up I mx_past v2.toNatClampNeg (I mx_pastThen v2.toNatClampNeg)), L, ab_RR, n, nc, ns) res)))) : ab_E w d mt_M_copyTo 2 [.ref mx_past, .ref mx_pastThen, .int v2] [] (I, L, ab_RR, n, nc, ns) res := by
  refine ab_iload_n (i := 2) d_M_copyTo_2 rfl rfl ?_
  refine ab_aload_n (i := 0) d_M_copyTo_3 rfl rfl ?_
  refine ab_alen (v := 15960) d_M_copyTo_4 (by decide) (by decide) rfl ?_
  refine ab_icmp_ge (tgt := 20) d_M_copyTo_5 (by decide) (fun c1 => ?_) (fun c1 => ?_)
  · have h := h.1 c1
    exact ab_vret d_M_copyTo_20 rfl h
  · have h := h.2 c1
    refine ab_aload_n (i := 0) d_M_copyTo_8 rfl rfl ?_
    refine ab_iload_n (i := 2) d_M_copyTo_9 rfl rfl ?_
    refine ab_aload_n (i := 1) d_M_copyTo_10 rfl rfl ?_
    refine ab_iload_n (i := 2) d_M_copyTo_11 rfl rfl ?_
    have g2 := h.1; have h := h.2
    refine ab_iald d_M_copyTo_12 rfl rfl g2 ?_
    refine ab_iast d_M_copyTo_13 rfl rfl g2 ?_
    refine ab_iinc (i := 2) (v := (v2 + 1)) d_M_copyTo_14 rfl rfl (by decide) (Or.inr rfl) ?_
    refine ab_goto (tgt := 2) d_M_copyTo_17 (by decide) ?_
    exact h
-- CableKeeperModel.copyTo([I[I)V over mx_notedCable, mx_notedCableThen
theorem q_M_copyTo_12_0 {w : ab_Wd} {d n nc ns : Nat} {I : Nat → Nat → Int32} {L : Nat → Nat → Int64} {res : ab_Re}  (hc : nc ≤ res.2.2.2.2.2.1) (hs : ns ≤ res.2.2.2.2.2.2)
    (h : ab_E w d mt_M_copyTo 2 [.ref mx_notedCable, .ref mx_notedCableThen, .int 0] [] (I, L, ab_RR, n, nc, ns) res) : ab_E w d mt_M_copyTo 0 [.ref mx_notedCable, .ref mx_notedCableThen, .null] [] (I, L, ab_RR, n, nc, ns) res := by
  refine ab_iconst (v := 0) d_M_copyTo_0 rfl ?_
  refine ab_istore_n (i := 2) d_M_copyTo_1 rfl (by decide) (Or.inr rfl) ?_
  exact h
theorem q_M_copyTo_12_2 {w : ab_Wd} {d n nc ns : Nat} {I : Nat → Nat → Int32} {L : Nat → Nat → Int64} {res : ab_Re} (v2 : Int32) (hc : nc ≤ res.2.2.2.2.2.1) (hs : ns ≤ res.2.2.2.2.2.2)
    (h : ((8 ≤ v2 → (res = (.inl none, (I, L, ab_RR, n, nc, ns)))) ∧ (¬ 8 ≤ v2 → ((vp_in v2 8) ∧ ab_E w d mt_M_copyTo 2 [.ref mx_notedCable, .ref mx_notedCableThen, .int (v2 + 1)] [] ((ab_up I mx_notedCable v2.toNatClampNeg (I mx_notedCableThen v2.toNatClampNeg)), L, ab_RR, n, nc, ns) res)))) : ab_E w d mt_M_copyTo 2 [.ref mx_notedCable, .ref mx_notedCableThen, .int v2] [] (I, L, ab_RR, n, nc, ns) res := by
  refine ab_iload_n (i := 2) d_M_copyTo_2 rfl rfl ?_
  refine ab_aload_n (i := 0) d_M_copyTo_3 rfl rfl ?_
  refine ab_alen (v := 8) d_M_copyTo_4 (by decide) (by decide) rfl ?_
  refine ab_icmp_ge (tgt := 20) d_M_copyTo_5 (by decide) (fun c1 => ?_) (fun c1 => ?_)
  · have h := h.1 c1
    exact ab_vret d_M_copyTo_20 rfl h
  · have h := h.2 c1
    refine ab_aload_n (i := 0) d_M_copyTo_8 rfl rfl ?_
    refine ab_iload_n (i := 2) d_M_copyTo_9 rfl rfl ?_
    refine ab_aload_n (i := 1) d_M_copyTo_10 rfl rfl ?_
    refine ab_iload_n (i := 2) d_M_copyTo_11 rfl rfl ?_
    have g2 := h.1; have h := h.2
    refine ab_iald d_M_copyTo_12 rfl rfl g2 ?_
    refine ab_iast d_M_copyTo_13 rfl rfl g2 ?_
    refine ab_iinc (i := 2) (v := (v2 + 1)) d_M_copyTo_14 rfl rfl (by decide) (Or.inr rfl) ?_
    refine ab_goto (tgt := 2) d_M_copyTo_17 (by decide) ?_
    exact h
-- CableKeeperModel.copyTo([I[I)V over mx_notedIn, mx_notedInThen
theorem q_M_copyTo_13_0 {w : ab_Wd} {d n nc ns : Nat} {I : Nat → Nat → Int32} {L : Nat → Nat → Int64} {res : ab_Re}  (hc : nc ≤ res.2.2.2.2.2.1) (hs : ns ≤ res.2.2.2.2.2.2)
    (h : ab_E w d mt_M_copyTo 2 [.ref mx_notedIn, .ref mx_notedInThen, .int 0] [] (I, L, ab_RR, n, nc, ns) res) : ab_E w d mt_M_copyTo 0 [.ref mx_notedIn, .ref mx_notedInThen, .null] [] (I, L, ab_RR, n, nc, ns) res := by
  refine ab_iconst (v := 0) d_M_copyTo_0 rfl ?_
  refine ab_istore_n (i := 2) d_M_copyTo_1 rfl (by decide) (Or.inr rfl) ?_
  exact h
theorem q_M_copyTo_13_2 {w : ab_Wd} {d n nc ns : Nat} {I : Nat → Nat → Int32} {L : Nat → Nat → Int64} {res : ab_Re} (v2 : Int32) (hc : nc ≤ res.2.2.2.2.2.1) (hs : ns ≤ res.2.2.2.2.2.2)
    (h : ((8 ≤ v2 → (res = (.inl none, (I, L, ab_RR, n, nc, ns)))) ∧ (¬ 8 ≤ v2 → ((vp_in v2 8) ∧ ab_E w d mt_M_copyTo 2 [.ref mx_notedIn, .ref mx_notedInThen, .int (v2 + 1)] [] ((ab_up I mx_notedIn v2.toNatClampNeg (I mx_notedInThen v2.toNatClampNeg)), L, ab_RR, n, nc, ns) res)))) : ab_E w d mt_M_copyTo 2 [.ref mx_notedIn, .ref mx_notedInThen, .int v2] [] (I, L, ab_RR, n, nc, ns) res := by
  refine ab_iload_n (i := 2) d_M_copyTo_2 rfl rfl ?_
  refine ab_aload_n (i := 0) d_M_copyTo_3 rfl rfl ?_
  refine ab_alen (v := 8) d_M_copyTo_4 (by decide) (by decide) rfl ?_
  refine ab_icmp_ge (tgt := 20) d_M_copyTo_5 (by decide) (fun c1 => ?_) (fun c1 => ?_)
  · have h := h.1 c1
    exact ab_vret d_M_copyTo_20 rfl h
  · have h := h.2 c1
    refine ab_aload_n (i := 0) d_M_copyTo_8 rfl rfl ?_
    refine ab_iload_n (i := 2) d_M_copyTo_9 rfl rfl ?_
    refine ab_aload_n (i := 1) d_M_copyTo_10 rfl rfl ?_
    refine ab_iload_n (i := 2) d_M_copyTo_11 rfl rfl ?_
    have g2 := h.1; have h := h.2
    refine ab_iald d_M_copyTo_12 rfl rfl g2 ?_
    refine ab_iast d_M_copyTo_13 rfl rfl g2 ?_
    refine ab_iinc (i := 2) (v := (v2 + 1)) d_M_copyTo_14 rfl rfl (by decide) (Or.inr rfl) ?_
    refine ab_goto (tgt := 2) d_M_copyTo_17 (by decide) ?_
    exact h
