/-! a contract over more frames -/
theorem room_up {s : State} {pl : Platform} {r r' : Room} (hf : r.frames ≤ r'.frames) (hl : r.locals ≤ r'.locals) (hc : r.cells = r'.cells) (hs : r.slots = r'.slots) (h : s.hasRoom pl r' = true) : s.hasRoom pl r = true := by
  unfold State.hasRoom at h ⊢
  simp only [Bool.and_eq_true, decide_eq_true_eq] at h ⊢
  rw [hc, hs]
  obtain ⟨⟨⟨⟨h1, h2, h3, h4, h5, h6⟩, h7⟩, h8⟩, h9⟩ := h
  exact ⟨⟨⟨⟨by omega, by omega, by omega, by omega, by omega, h6⟩, h7⟩, h8⟩, h9⟩
theorem ab_C_up {w : ab_Wd} {d : Nat} {me : ab_Me} {as : List Value} {M : ab_M} {res : ab_Re} (h : ab_C w d me as M res) : ab_C w (d + 1) me as M res := by
  intro ad cA dom p e hadm hfc hfk s m args below hf happ hP hK
  refine h ad cA dom p e hadm hfc hfk s m args below hf ?_ hP hK
  unfold Spec.appliesLoose at happ ⊢
  rw [hf] at happ ⊢
  simp only [Bool.and_eq_true] at happ ⊢
  obtain ⟨⟨h1, h2⟩, h3⟩ := happ
  have h4 : s.hasRoom e.platform (ab_rm (d + 1) (res.2.2.2.2.2.1 - M.2.2.2.2.1) (res.2.2.2.2.2.2 - M.2.2.2.2.2)) = true := h2
  have h5 : s.hasRoom e.platform (ab_rm d (res.2.2.2.2.2.1 - M.2.2.2.2.1) (res.2.2.2.2.2.2 - M.2.2.2.2.2)) = true := room_up (r' := ab_rm (d + 1) (res.2.2.2.2.2.1 - M.2.2.2.2.1) (res.2.2.2.2.2.2 - M.2.2.2.2.2)) (show d ≤ d + 1 by omega) (show 64 * d ≤ 64 * (d + 1) by omega) rfl rfl h4
  exact ⟨⟨h1, h5⟩, h3⟩
