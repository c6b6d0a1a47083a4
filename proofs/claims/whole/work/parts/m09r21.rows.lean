theorem r_Reader_toNext_0 {w : ab_Wd} {d n nc ns : Nat} {I : Nat → Nat → Int32} {L : Nat → Nat → Int64} {res : ab_Re} (hT : w.1.stackTraces = false)  (hc : nc ≤ res.2.2.2.2.2.1) (hs : ns ≤ res.2.2.2.2.2.2)
    (h : (((I kx_reader 1) ≤ (I kx_reader 3) → (((I kx_reader 3) < (I kx_reader 1) → ((vp_in (I kx_reader 3) 700) ∧ (((I kx_tape (I kx_reader 3).toNatClampNeg) < 97 → (((I kx_tape (I kx_reader 3).toNatClampNeg) < 48 → ((¬ (I kx_tape (I kx_reader 3).toNatClampNeg) = 59 → (res = (.inl none, ((ab_up (ab_up (ab_up I kx_reader 5 (I kx_reader 3)) kx_reader 4 4) kx_reader 3 ((I kx_reader 3) + 1)), L, ab_RR, n, nc, ns)))) ∧ ((I kx_tape (I kx_reader 3).toNatClampNeg) = 59 → (res = (.inl none, ((ab_up (ab_up (ab_up I kx_reader 5 (I kx_reader 3)) kx_reader 4 3) kx_reader 3 ((I kx_reader 3) + 1)), L, ab_RR, n, nc, ns)))))) ∧ (¬ (I kx_tape (I kx_reader 3).toNatClampNeg) < 48 → ((57 < (I kx_tape (I kx_reader 3).toNatClampNeg) → ((¬ (I kx_tape (I kx_reader 3).toNatClampNeg) = 59 → (res = (.inl none, ((ab_up (ab_up (ab_up I kx_reader 5 (I kx_reader 3)) kx_reader 4 4) kx_reader 3 ((I kx_reader 3) + 1)), L, ab_RR, n, nc, ns)))) ∧ ((I kx_tape (I kx_reader 3).toNatClampNeg) = 59 → (res = (.inl none, ((ab_up (ab_up (ab_up I kx_reader 5 (I kx_reader 3)) kx_reader 4 3) kx_reader 3 ((I kx_reader 3) + 1)), L, ab_RR, n, nc, ns)))))) ∧ (¬ 57 < (I kx_tape (I kx_reader 3).toNatClampNeg) → (∃ (I12 : Nat → Nat → Int32), ab_C w d mt_Reader_passNumber [.ref kx_reader] ((ab_up (ab_up I kx_reader 5 (I kx_reader 3)) kx_reader 4 2), L, ab_RR, n, nc, ns) (.inl none, (I12, L, ab_RR, n, nc, ns)) ∧ res = (.inl none, (I12, L, ab_RR, n, nc, ns)))))))) ∧ (¬ (I kx_tape (I kx_reader 3).toNatClampNeg) < 97 → ((122 < (I kx_tape (I kx_reader 3).toNatClampNeg) → (((I kx_tape (I kx_reader 3).toNatClampNeg) < 48 → ((¬ (I kx_tape (I kx_reader 3).toNatClampNeg) = 59 → (res = (.inl none, ((ab_up (ab_up (ab_up I kx_reader 5 (I kx_reader 3)) kx_reader 4 4) kx_reader 3 ((I kx_reader 3) + 1)), L, ab_RR, n, nc, ns)))) ∧ ((I kx_tape (I kx_reader 3).toNatClampNeg) = 59 → (res = (.inl none, ((ab_up (ab_up (ab_up I kx_reader 5 (I kx_reader 3)) kx_reader 4 3) kx_reader 3 ((I kx_reader 3) + 1)), L, ab_RR, n, nc, ns)))))) ∧ (¬ (I kx_tape (I kx_reader 3).toNatClampNeg) < 48 → ((57 < (I kx_tape (I kx_reader 3).toNatClampNeg) → ((¬ (I kx_tape (I kx_reader 3).toNatClampNeg) = 59 → (res = (.inl none, ((ab_up (ab_up (ab_up I kx_reader 5 (I kx_reader 3)) kx_reader 4 4) kx_reader 3 ((I kx_reader 3) + 1)), L, ab_RR, n, nc, ns)))) ∧ ((I kx_tape (I kx_reader 3).toNatClampNeg) = 59 → (res = (.inl none, ((ab_up (ab_up (ab_up I kx_reader 5 (I kx_reader 3)) kx_reader 4 3) kx_reader 3 ((I kx_reader 3) + 1)), L, ab_RR, n, nc, ns)))))) ∧ (¬ 57 < (I kx_tape (I kx_reader 3).toNatClampNeg) → (∃ (I20 : Nat → Nat → Int32), ab_C w d mt_Reader_passNumber [.ref kx_reader] ((ab_up (ab_up I kx_reader 5 (I kx_reader 3)) kx_reader 4 2), L, ab_RR, n, nc, ns) (.inl none, (I20, L, ab_RR, n, nc, ns)) ∧ res = (.inl none, (I20, L, ab_RR, n, nc, ns)))))))) ∧ (¬ 122 < (I kx_tape (I kx_reader 3).toNatClampNeg) → (∃ (I22 : Nat → Nat → Int32), ab_C w d mt_Reader_passWord [.ref kx_reader] ((ab_up (ab_up I kx_reader 5 (I kx_reader 3)) kx_reader 4 1), L, ab_RR, n, nc, ns) (.inl none, (I22, L, ab_RR, n, nc, ns)) ∧ res = (.inl none, (I22, L, ab_RR, n, nc, ns))))))))) ∧ (¬ (I kx_reader 3) < (I kx_reader 1) → (res = (.inl none, ((ab_up (ab_up I kx_reader 5 (I kx_reader 3)) kx_reader 4 0), L, ab_RR, n, nc, ns)))))) ∧ (¬ (I kx_reader 1) ≤ (I kx_reader 3) → ((vp_in (I kx_reader 3) 700) ∧ (((I kx_tape (I kx_reader 3).toNatClampNeg) = 32 → (ab_E w (d + 1) mt_Reader_toNext 0 [.ref kx_reader] [] ((ab_up I kx_reader 3 ((I kx_reader 3) + 1)), L, ab_RR, n, nc, ns) res)) ∧ (¬ (I kx_tape (I kx_reader 3).toNatClampNeg) = 32 → ((¬ (I kx_tape (I kx_reader 3).toNatClampNeg) = 10 → (((I kx_reader 3) < (I kx_reader 1) → (((I kx_tape (I kx_reader 3).toNatClampNeg) < 97 → (((I kx_tape (I kx_reader 3).toNatClampNeg) < 48 → ((¬ (I kx_tape (I kx_reader 3).toNatClampNeg) = 59 → (res = (.inl none, ((ab_up (ab_up (ab_up I kx_reader 5 (I kx_reader 3)) kx_reader 4 4) kx_reader 3 ((I kx_reader 3) + 1)), L, ab_RR, n, nc, ns)))) ∧ ((I kx_tape (I kx_reader 3).toNatClampNeg) = 59 → (res = (.inl none, ((ab_up (ab_up (ab_up I kx_reader 5 (I kx_reader 3)) kx_reader 4 3) kx_reader 3 ((I kx_reader 3) + 1)), L, ab_RR, n, nc, ns)))))) ∧ (¬ (I kx_tape (I kx_reader 3).toNatClampNeg) < 48 → ((57 < (I kx_tape (I kx_reader 3).toNatClampNeg) → ((¬ (I kx_tape (I kx_reader 3).toNatClampNeg) = 59 → (res = (.inl none, ((ab_up (ab_up (ab_up I kx_reader 5 (I kx_reader 3)) kx_reader 4 4) kx_reader 3 ((I kx_reader 3) + 1)), L, ab_RR, n, nc, ns)))) ∧ ((I kx_tape (I kx_reader 3).toNatClampNeg) = 59 → (res = (.inl none, ((ab_up (ab_up (ab_up I kx_reader 5 (I kx_reader 3)) kx_reader 4 3) kx_reader 3 ((I kx_reader 3) + 1)), L, ab_RR, n, nc, ns)))))) ∧ (¬ 57 < (I kx_tape (I kx_reader 3).toNatClampNeg) → (∃ (I35 : Nat → Nat → Int32), ab_C w d mt_Reader_passNumber [.ref kx_reader] ((ab_up (ab_up I kx_reader 5 (I kx_reader 3)) kx_reader 4 2), L, ab_RR, n, nc, ns) (.inl none, (I35, L, ab_RR, n, nc, ns)) ∧ res = (.inl none, (I35, L, ab_RR, n, nc, ns)))))))) ∧ (¬ (I kx_tape (I kx_reader 3).toNatClampNeg) < 97 → ((122 < (I kx_tape (I kx_reader 3).toNatClampNeg) → (((I kx_tape (I kx_reader 3).toNatClampNeg) < 48 → ((¬ (I kx_tape (I kx_reader 3).toNatClampNeg) = 59 → (res = (.inl none, ((ab_up (ab_up (ab_up I kx_reader 5 (I kx_reader 3)) kx_reader 4 4) kx_reader 3 ((I kx_reader 3) + 1)), L, ab_RR, n, nc, ns)))) ∧ ((I kx_tape (I kx_reader 3).toNatClampNeg) = 59 → (res = (.inl none, ((ab_up (ab_up (ab_up I kx_reader 5 (I kx_reader 3)) kx_reader 4 3) kx_reader 3 ((I kx_reader 3) + 1)), L, ab_RR, n, nc, ns)))))) ∧ (¬ (I kx_tape (I kx_reader 3).toNatClampNeg) < 48 → ((57 < (I kx_tape (I kx_reader 3).toNatClampNeg) → ((¬ (I kx_tape (I kx_reader 3).toNatClampNeg) = 59 → (res = (.inl none, ((ab_up (ab_up (ab_up I kx_reader 5 (I kx_reader 3)) kx_reader 4 4) kx_reader 3 ((I kx_reader 3) + 1)), L, ab_RR, n, nc, ns)))) ∧ ((I kx_tape (I kx_reader 3).toNatClampNeg) = 59 → (res = (.inl none, ((ab_up (ab_up (ab_up I kx_reader 5 (I kx_reader 3)) kx_reader 4 3) kx_reader 3 ((I kx_reader 3) + 1)), L, ab_RR, n, nc, ns)))))) ∧ (¬ 57 < (I kx_tape (I kx_reader 3).toNatClampNeg) → (∃ (I43 : Nat → Nat → Int32), ab_C w d mt_Reader_passNumber [.ref kx_reader] ((ab_up (ab_up I kx_reader 5 (I kx_reader 3)) kx_reader 4 2), L, ab_RR, n, nc, ns) (.inl none, (I43, L, ab_RR, n, nc, ns)) ∧ res = (.inl none, (I43, L, ab_RR, n, nc, ns)))))))) ∧ (¬ 122 < (I kx_tape (I kx_reader 3).toNatClampNeg) → (∃ (I45 : Nat → Nat → Int32), ab_C w d mt_Reader_passWord [.ref kx_reader] ((ab_up (ab_up I kx_reader 5 (I kx_reader 3)) kx_reader 4 1), L, ab_RR, n, nc, ns) (.inl none, (I45, L, ab_RR, n, nc, ns)) ∧ res = (.inl none, (I45, L, ab_RR, n, nc, ns)))))))) ∧ (¬ (I kx_reader 3) < (I kx_reader 1) → (res = (.inl none, ((ab_up (ab_up I kx_reader 5 (I kx_reader 3)) kx_reader 4 0), L, ab_RR, n, nc, ns)))))) ∧ ((I kx_tape (I kx_reader 3).toNatClampNeg) = 10 → (ab_E w (d + 1) mt_Reader_toNext 0 [.ref kx_reader] [] ((ab_up I kx_reader 3 ((I kx_reader 3) + 1)), L, ab_RR, n, nc, ns) res))))))))) : ab_E w (d + 1) mt_Reader_toNext 0 [.ref kx_reader] [] (I, L, ab_RR, n, nc, ns) res := by
  refine ab_aload_n (i := 0) d_Reader_toNext_0 rfl rfl ?_
  refine ab_getI (ci := 4) (k := 3) d_Reader_toNext_1 v_770 rfl (by decide) (by decide) rfl ?_
  refine ab_aload_n (i := 0) d_Reader_toNext_4 rfl rfl ?_
  refine ab_getI (ci := 4) (k := 1) d_Reader_toNext_5 v_768 rfl (by decide) (by decide) rfl ?_
  refine ab_icmp_ge (tgt := 52) d_Reader_toNext_8 (by decide) (fun c1 => ?_) (fun c1 => ?_)
  · have h := h.1 c1
    refine ab_aload_n (i := 0) d_Reader_toNext_52 rfl rfl ?_
    refine ab_aload_n (i := 0) d_Reader_toNext_53 rfl rfl ?_
    refine ab_getI (ci := 4) (k := 3) d_Reader_toNext_54 v_770 rfl (by decide) (by decide) rfl ?_
    refine ab_putI (ci := 4) (k := 5) d_Reader_toNext_57 v_772 rfl (by decide) (by decide) rfl (Or.inl rfl) rfl rfl ?_
    refine ab_aload_n (i := 0) d_Reader_toNext_60 rfl rfl ?_
    refine ab_getI (ci := 4) (k := 3) d_Reader_toNext_61 v_770 rfl (by decide) (by decide) rfl ?_
    refine ab_aload_n (i := 0) d_Reader_toNext_64 rfl rfl ?_
    refine ab_getI (ci := 4) (k := 1) d_Reader_toNext_65 v_768 rfl (by decide) (by decide) rfl ?_
    refine ab_icmp_lt (tgt := 79) d_Reader_toNext_68 (by decide) (fun c2 => ?_) (fun c2 => ?_)
    · have h := h.1 c2
      refine ab_aload_n (i := 0) d_Reader_toNext_79 rfl rfl ?_
      refine ab_aload_n (i := 0) d_Reader_toNext_80 rfl rfl ?_
      refine ab_getI (ci := 4) (k := 3) d_Reader_toNext_81 v_770 rfl (by decide) (by decide) rfl ?_
      have g4 := h.1; have h := h.2
      by_cases c5 : (I kx_tape (I kx_reader 3).toNatClampNeg) < 97
      · have h := h.1 c5
        refine ab_callV (me2 := mt_Reader_isLetter) (b := kx_reader) (as := [.int (I kx_reader 3)]) (st := []) (rv := (some (.int 0))) (M2 := ((ab_up I kx_reader 5 (I kx_reader 3)), L, ab_RR, n, nc, ns)) d_Reader_toNext_84 ce_Reader_isLetter v_808 v_810 v_15 (by decide) rfl (Nat.le_of_ble_eq_true rfl) (cx_Reader_isLetter_0 (I kx_reader 3) hT g4 c5) (Nat.le_refl _) (Nat.le_refl _) hc hs (fun j h9 => by cases h9) (fun _ _ => rfl) ?_
        show ab_E w (d + 1) mt_Reader_toNext 87 [.ref kx_reader] [.int 0] ((ab_up I kx_reader 5 (I kx_reader 3)), L, ab_RR, n, nc, ns) res
        refine ab_if_eq (tgt := 102) d_Reader_toNext_87 (by decide) (fun _ => ?_) (fun c9 => absurd (show (0 : Int32) = 0 from by decide) c9)
        refine ab_aload_n (i := 0) d_Reader_toNext_102 rfl rfl ?_
        refine ab_aload_n (i := 0) d_Reader_toNext_103 rfl rfl ?_
        refine ab_getI (ci := 4) (k := 3) d_Reader_toNext_104 v_770 rfl (by decide) (by decide) rfl ?_
        by_cases c7 : (I kx_tape (I kx_reader 3).toNatClampNeg) < 48
        · have h := h.1 c7
          refine ab_callV (me2 := mt_Reader_isDigit) (b := kx_reader) (as := [.int (I kx_reader 3)]) (st := []) (rv := (some (.int 0))) (M2 := ((ab_up I kx_reader 5 (I kx_reader 3)), L, ab_RR, n, nc, ns)) d_Reader_toNext_107 ce_Reader_isDigit v_816 v_818 v_17 (by decide) rfl (Nat.le_of_ble_eq_true rfl) (cx_Reader_isDigit_0 (I kx_reader 3) hT g4 c7) (Nat.le_refl _) (Nat.le_refl _) hc hs (fun j h9 => by cases h9) (fun _ _ => rfl) ?_
          show ab_E w (d + 1) mt_Reader_toNext 110 [.ref kx_reader] [.int 0] ((ab_up I kx_reader 5 (I kx_reader 3)), L, ab_RR, n, nc, ns) res
          refine ab_if_eq (tgt := 125) d_Reader_toNext_110 (by decide) (fun _ => ?_) (fun c9 => absurd (show (0 : Int32) = 0 from by decide) c9)
          refine ab_aload_n (i := 0) d_Reader_toNext_125 rfl rfl ?_
          refine ab_aload_n (i := 0) d_Reader_toNext_126 rfl rfl ?_
          refine ab_getR (ci := 4) (k := 0) (j := kx_tape) d_Reader_toNext_127 v_767 rfl (by decide) (by decide) rfl r_kx_reader_0 ?_
          refine ab_aload_n (i := 0) d_Reader_toNext_130 rfl rfl ?_
          refine ab_getI (ci := 4) (k := 3) d_Reader_toNext_131 v_770 rfl (by decide) (by decide) rfl ?_
          refine ab_bald d_Reader_toNext_134 rfl rfl g4 ?_
          refine ab_bipush (v := 59) d_Reader_toNext_135 rfl ?_
          refine ab_icmp_ne (tgt := 144) d_Reader_toNext_137 (by decide) (fun c8 => ?_) (fun c8 => ?_)
          · have h := h.1 c8
            refine ab_iconst (v := 4) d_Reader_toNext_144 rfl ?_
            refine ab_putI (ci := 4) (k := 4) d_Reader_toNext_145 v_771 rfl (by decide) (by decide) rfl (Or.inl rfl) rfl rfl ?_
            refine ab_aload_n (i := 0) d_Reader_toNext_148 rfl rfl ?_
            refine ab_dupr d_Reader_toNext_149 ?_
            refine ab_getI (ci := 4) (k := 3) d_Reader_toNext_150 v_770 rfl (by decide) (by decide) rfl ?_
            refine ab_iconst (v := 1) d_Reader_toNext_153 rfl ?_
            refine ab_iadd d_Reader_toNext_154 ?_
            refine ab_putI (ci := 4) (k := 3) d_Reader_toNext_155 v_770 rfl (by decide) (by decide) rfl (Or.inl rfl) rfl rfl ?_
            exact ab_vret d_Reader_toNext_158 rfl h
          · have h := h.2 c8
            refine ab_iconst (v := 3) d_Reader_toNext_140 rfl ?_
            refine ab_goto (tgt := 145) d_Reader_toNext_141 (by decide) ?_
            refine ab_putI (ci := 4) (k := 4) d_Reader_toNext_145 v_771 rfl (by decide) (by decide) rfl (Or.inl rfl) rfl rfl ?_
            refine ab_aload_n (i := 0) d_Reader_toNext_148 rfl rfl ?_
            refine ab_dupr d_Reader_toNext_149 ?_
            refine ab_getI (ci := 4) (k := 3) d_Reader_toNext_150 v_770 rfl (by decide) (by decide) rfl ?_
            refine ab_iconst (v := 1) d_Reader_toNext_153 rfl ?_
            refine ab_iadd d_Reader_toNext_154 ?_
            refine ab_putI (ci := 4) (k := 3) d_Reader_toNext_155 v_770 rfl (by decide) (by decide) rfl (Or.inl rfl) rfl rfl ?_
            exact ab_vret d_Reader_toNext_158 rfl h
        · have h := h.2 c7
          by_cases c9 : 57 < (I kx_tape (I kx_reader 3).toNatClampNeg)
          · have h := h.1 c9
            refine ab_callV (me2 := mt_Reader_isDigit) (b := kx_reader) (as := [.int (I kx_reader 3)]) (st := []) (rv := (some (.int 0))) (M2 := ((ab_up I kx_reader 5 (I kx_reader 3)), L, ab_RR, n, nc, ns)) d_Reader_toNext_107 ce_Reader_isDigit v_816 v_818 v_17 (by decide) rfl (Nat.le_of_ble_eq_true rfl) (cx_Reader_isDigit_1 (I kx_reader 3) hT g4 c7 g4 c9) (Nat.le_refl _) (Nat.le_refl _) hc hs (fun j h9 => by cases h9) (fun _ _ => rfl) ?_
            show ab_E w (d + 1) mt_Reader_toNext 110 [.ref kx_reader] [.int 0] ((ab_up I kx_reader 5 (I kx_reader 3)), L, ab_RR, n, nc, ns) res
            refine ab_if_eq (tgt := 125) d_Reader_toNext_110 (by decide) (fun _ => ?_) (fun c9 => absurd (show (0 : Int32) = 0 from by decide) c9)
            refine ab_aload_n (i := 0) d_Reader_toNext_125 rfl rfl ?_
            refine ab_aload_n (i := 0) d_Reader_toNext_126 rfl rfl ?_
            refine ab_getR (ci := 4) (k := 0) (j := kx_tape) d_Reader_toNext_127 v_767 rfl (by decide) (by decide) rfl r_kx_reader_0 ?_
            refine ab_aload_n (i := 0) d_Reader_toNext_130 rfl rfl ?_
            refine ab_getI (ci := 4) (k := 3) d_Reader_toNext_131 v_770 rfl (by decide) (by decide) rfl ?_
            refine ab_bald d_Reader_toNext_134 rfl rfl g4 ?_
            refine ab_bipush (v := 59) d_Reader_toNext_135 rfl ?_
            refine ab_icmp_ne (tgt := 144) d_Reader_toNext_137 (by decide) (fun c10 => ?_) (fun c10 => ?_)
            · have h := h.1 c10
              refine ab_iconst (v := 4) d_Reader_toNext_144 rfl ?_
              refine ab_putI (ci := 4) (k := 4) d_Reader_toNext_145 v_771 rfl (by decide) (by decide) rfl (Or.inl rfl) rfl rfl ?_
              refine ab_aload_n (i := 0) d_Reader_toNext_148 rfl rfl ?_
              refine ab_dupr d_Reader_toNext_149 ?_
              refine ab_getI (ci := 4) (k := 3) d_Reader_toNext_150 v_770 rfl (by decide) (by decide) rfl ?_
              refine ab_iconst (v := 1) d_Reader_toNext_153 rfl ?_
              refine ab_iadd d_Reader_toNext_154 ?_
              refine ab_putI (ci := 4) (k := 3) d_Reader_toNext_155 v_770 rfl (by decide) (by decide) rfl (Or.inl rfl) rfl rfl ?_
              exact ab_vret d_Reader_toNext_158 rfl h
            · have h := h.2 c10
              refine ab_iconst (v := 3) d_Reader_toNext_140 rfl ?_
              refine ab_goto (tgt := 145) d_Reader_toNext_141 (by decide) ?_
              refine ab_putI (ci := 4) (k := 4) d_Reader_toNext_145 v_771 rfl (by decide) (by decide) rfl (Or.inl rfl) rfl rfl ?_
              refine ab_aload_n (i := 0) d_Reader_toNext_148 rfl rfl ?_
              refine ab_dupr d_Reader_toNext_149 ?_
              refine ab_getI (ci := 4) (k := 3) d_Reader_toNext_150 v_770 rfl (by decide) (by decide) rfl ?_
              refine ab_iconst (v := 1) d_Reader_toNext_153 rfl ?_
              refine ab_iadd d_Reader_toNext_154 ?_
              refine ab_putI (ci := 4) (k := 3) d_Reader_toNext_155 v_770 rfl (by decide) (by decide) rfl (Or.inl rfl) rfl rfl ?_
              exact ab_vret d_Reader_toNext_158 rfl h
          · have h := h.2 c9
            refine ab_callV (me2 := mt_Reader_isDigit) (b := kx_reader) (as := [.int (I kx_reader 3)]) (st := []) (rv := (some (.int 1))) (M2 := ((ab_up I kx_reader 5 (I kx_reader 3)), L, ab_RR, n, nc, ns)) d_Reader_toNext_107 ce_Reader_isDigit v_816 v_818 v_17 (by decide) rfl (Nat.le_of_ble_eq_true rfl) (cx_Reader_isDigit_2 (I kx_reader 3) hT g4 c7 g4 c9) (Nat.le_refl _) (Nat.le_refl _) hc hs (fun j h9 => by cases h9) (fun _ _ => rfl) ?_
            show ab_E w (d + 1) mt_Reader_toNext 110 [.ref kx_reader] [.int 1] ((ab_up I kx_reader 5 (I kx_reader 3)), L, ab_RR, n, nc, ns) res
            refine ab_if_eq (tgt := 125) d_Reader_toNext_110 (by decide) (fun c9 => absurd c9 (show ¬ (1 : Int32) = 0 from by decide)) (fun _ => ?_)
            refine ab_aload_n (i := 0) d_Reader_toNext_113 rfl rfl ?_
            refine ab_iconst (v := 2) d_Reader_toNext_114 rfl ?_
            refine ab_putI (ci := 4) (k := 4) d_Reader_toNext_115 v_771 rfl (by decide) (by decide) rfl (Or.inl rfl) rfl rfl ?_
            refine ab_aload_n (i := 0) d_Reader_toNext_118 rfl rfl ?_
            obtain ⟨I12, hC, h⟩ := h
            refine ab_callV (me2 := mt_Reader_passNumber) (b := kx_reader) (as := []) (st := []) (rv := none) (M2 := (I12, L, ab_RR, n, nc, ns)) d_Reader_toNext_119 ce_Reader_passNumber v_820 v_822 v_18 (by decide) rfl (Nat.le_of_ble_eq_true rfl) hC (Nat.le_refl _) (Nat.le_refl _) hc hs (fun j h9 => by cases h9) (fun _ _ => rfl) ?_
            show ab_E w (d + 1) mt_Reader_toNext 122 [.ref kx_reader] [] (I12, L, ab_RR, n, nc, ns) res
            refine ab_goto (tgt := 158) d_Reader_toNext_122 (by decide) ?_
            exact ab_vret d_Reader_toNext_158 rfl h
      · have h := h.2 c5
        by_cases c13 : 122 < (I kx_tape (I kx_reader 3).toNatClampNeg)
        · have h := h.1 c13
          refine ab_callV (me2 := mt_Reader_isLetter) (b := kx_reader) (as := [.int (I kx_reader 3)]) (st := []) (rv := (some (.int 0))) (M2 := ((ab_up I kx_reader 5 (I kx_reader 3)), L, ab_RR, n, nc, ns)) d_Reader_toNext_84 ce_Reader_isLetter v_808 v_810 v_15 (by decide) rfl (Nat.le_of_ble_eq_true rfl) (cx_Reader_isLetter_1 (I kx_reader 3) hT g4 c5 g4 c13) (Nat.le_refl _) (Nat.le_refl _) hc hs (fun j h9 => by cases h9) (fun _ _ => rfl) ?_
          show ab_E w (d + 1) mt_Reader_toNext 87 [.ref kx_reader] [.int 0] ((ab_up I kx_reader 5 (I kx_reader 3)), L, ab_RR, n, nc, ns) res
          refine ab_if_eq (tgt := 102) d_Reader_toNext_87 (by decide) (fun _ => ?_) (fun c9 => absurd (show (0 : Int32) = 0 from by decide) c9)
          refine ab_aload_n (i := 0) d_Reader_toNext_102 rfl rfl ?_
          refine ab_aload_n (i := 0) d_Reader_toNext_103 rfl rfl ?_
          refine ab_getI (ci := 4) (k := 3) d_Reader_toNext_104 v_770 rfl (by decide) (by decide) rfl ?_
          by_cases c15 : (I kx_tape (I kx_reader 3).toNatClampNeg) < 48
          · have h := h.1 c15
            refine ab_callV (me2 := mt_Reader_isDigit) (b := kx_reader) (as := [.int (I kx_reader 3)]) (st := []) (rv := (some (.int 0))) (M2 := ((ab_up I kx_reader 5 (I kx_reader 3)), L, ab_RR, n, nc, ns)) d_Reader_toNext_107 ce_Reader_isDigit v_816 v_818 v_17 (by decide) rfl (Nat.le_of_ble_eq_true rfl) (cx_Reader_isDigit_0 (I kx_reader 3) hT g4 c15) (Nat.le_refl _) (Nat.le_refl _) hc hs (fun j h9 => by cases h9) (fun _ _ => rfl) ?_
            show ab_E w (d + 1) mt_Reader_toNext 110 [.ref kx_reader] [.int 0] ((ab_up I kx_reader 5 (I kx_reader 3)), L, ab_RR, n, nc, ns) res
            refine ab_if_eq (tgt := 125) d_Reader_toNext_110 (by decide) (fun _ => ?_) (fun c9 => absurd (show (0 : Int32) = 0 from by decide) c9)
            refine ab_aload_n (i := 0) d_Reader_toNext_125 rfl rfl ?_
            refine ab_aload_n (i := 0) d_Reader_toNext_126 rfl rfl ?_
            refine ab_getR (ci := 4) (k := 0) (j := kx_tape) d_Reader_toNext_127 v_767 rfl (by decide) (by decide) rfl r_kx_reader_0 ?_
            refine ab_aload_n (i := 0) d_Reader_toNext_130 rfl rfl ?_
            refine ab_getI (ci := 4) (k := 3) d_Reader_toNext_131 v_770 rfl (by decide) (by decide) rfl ?_
            refine ab_bald d_Reader_toNext_134 rfl rfl g4 ?_
            refine ab_bipush (v := 59) d_Reader_toNext_135 rfl ?_
            refine ab_icmp_ne (tgt := 144) d_Reader_toNext_137 (by decide) (fun c16 => ?_) (fun c16 => ?_)
            · have h := h.1 c16
              refine ab_iconst (v := 4) d_Reader_toNext_144 rfl ?_
              refine ab_putI (ci := 4) (k := 4) d_Reader_toNext_145 v_771 rfl (by decide) (by decide) rfl (Or.inl rfl) rfl rfl ?_
              refine ab_aload_n (i := 0) d_Reader_toNext_148 rfl rfl ?_
              refine ab_dupr d_Reader_toNext_149 ?_
              refine ab_getI (ci := 4) (k := 3) d_Reader_toNext_150 v_770 rfl (by decide) (by decide) rfl ?_
              refine ab_iconst (v := 1) d_Reader_toNext_153 rfl ?_
              refine ab_iadd d_Reader_toNext_154 ?_
              refine ab_putI (ci := 4) (k := 3) d_Reader_toNext_155 v_770 rfl (by decide) (by decide) rfl (Or.inl rfl) rfl rfl ?_
              exact ab_vret d_Reader_toNext_158 rfl h
            · have h := h.2 c16
              refine ab_iconst (v := 3) d_Reader_toNext_140 rfl ?_
              refine ab_goto (tgt := 145) d_Reader_toNext_141 (by decide) ?_
              refine ab_putI (ci := 4) (k := 4) d_Reader_toNext_145 v_771 rfl (by decide) (by decide) rfl (Or.inl rfl) rfl rfl ?_
              refine ab_aload_n (i := 0) d_Reader_toNext_148 rfl rfl ?_
              refine ab_dupr d_Reader_toNext_149 ?_
              refine ab_getI (ci := 4) (k := 3) d_Reader_toNext_150 v_770 rfl (by decide) (by decide) rfl ?_
              refine ab_iconst (v := 1) d_Reader_toNext_153 rfl ?_
              refine ab_iadd d_Reader_toNext_154 ?_
              refine ab_putI (ci := 4) (k := 3) d_Reader_toNext_155 v_770 rfl (by decide) (by decide) rfl (Or.inl rfl) rfl rfl ?_
              exact ab_vret d_Reader_toNext_158 rfl h
          · have h := h.2 c15
            by_cases c17 : 57 < (I kx_tape (I kx_reader 3).toNatClampNeg)
            · have h := h.1 c17
              refine ab_callV (me2 := mt_Reader_isDigit) (b := kx_reader) (as := [.int (I kx_reader 3)]) (st := []) (rv := (some (.int 0))) (M2 := ((ab_up I kx_reader 5 (I kx_reader 3)), L, ab_RR, n, nc, ns)) d_Reader_toNext_107 ce_Reader_isDigit v_816 v_818 v_17 (by decide) rfl (Nat.le_of_ble_eq_true rfl) (cx_Reader_isDigit_1 (I kx_reader 3) hT g4 c15 g4 c17) (Nat.le_refl _) (Nat.le_refl _) hc hs (fun j h9 => by cases h9) (fun _ _ => rfl) ?_
              show ab_E w (d + 1) mt_Reader_toNext 110 [.ref kx_reader] [.int 0] ((ab_up I kx_reader 5 (I kx_reader 3)), L, ab_RR, n, nc, ns) res
              refine ab_if_eq (tgt := 125) d_Reader_toNext_110 (by decide) (fun _ => ?_) (fun c9 => absurd (show (0 : Int32) = 0 from by decide) c9)
              refine ab_aload_n (i := 0) d_Reader_toNext_125 rfl rfl ?_
              refine ab_aload_n (i := 0) d_Reader_toNext_126 rfl rfl ?_
              refine ab_getR (ci := 4) (k := 0) (j := kx_tape) d_Reader_toNext_127 v_767 rfl (by decide) (by decide) rfl r_kx_reader_0 ?_
              refine ab_aload_n (i := 0) d_Reader_toNext_130 rfl rfl ?_
              refine ab_getI (ci := 4) (k := 3) d_Reader_toNext_131 v_770 rfl (by decide) (by decide) rfl ?_
              refine ab_bald d_Reader_toNext_134 rfl rfl g4 ?_
              refine ab_bipush (v := 59) d_Reader_toNext_135 rfl ?_
              refine ab_icmp_ne (tgt := 144) d_Reader_toNext_137 (by decide) (fun c18 => ?_) (fun c18 => ?_)
              · have h := h.1 c18
                refine ab_iconst (v := 4) d_Reader_toNext_144 rfl ?_
                refine ab_putI (ci := 4) (k := 4) d_Reader_toNext_145 v_771 rfl (by decide) (by decide) rfl (Or.inl rfl) rfl rfl ?_
                refine ab_aload_n (i := 0) d_Reader_toNext_148 rfl rfl ?_
                refine ab_dupr d_Reader_toNext_149 ?_
                refine ab_getI (ci := 4) (k := 3) d_Reader_toNext_150 v_770 rfl (by decide) (by decide) rfl ?_
                refine ab_iconst (v := 1) d_Reader_toNext_153 rfl ?_
                refine ab_iadd d_Reader_toNext_154 ?_
                refine ab_putI (ci := 4) (k := 3) d_Reader_toNext_155 v_770 rfl (by decide) (by decide) rfl (Or.inl rfl) rfl rfl ?_
                exact ab_vret d_Reader_toNext_158 rfl h
              · have h := h.2 c18
                refine ab_iconst (v := 3) d_Reader_toNext_140 rfl ?_
                refine ab_goto (tgt := 145) d_Reader_toNext_141 (by decide) ?_
                refine ab_putI (ci := 4) (k := 4) d_Reader_toNext_145 v_771 rfl (by decide) (by decide) rfl (Or.inl rfl) rfl rfl ?_
                refine ab_aload_n (i := 0) d_Reader_toNext_148 rfl rfl ?_
                refine ab_dupr d_Reader_toNext_149 ?_
                refine ab_getI (ci := 4) (k := 3) d_Reader_toNext_150 v_770 rfl (by decide) (by decide) rfl ?_
                refine ab_iconst (v := 1) d_Reader_toNext_153 rfl ?_
                refine ab_iadd d_Reader_toNext_154 ?_
                refine ab_putI (ci := 4) (k := 3) d_Reader_toNext_155 v_770 rfl (by decide) (by decide) rfl (Or.inl rfl) rfl rfl ?_
                exact ab_vret d_Reader_toNext_158 rfl h
            · have h := h.2 c17
              refine ab_callV (me2 := mt_Reader_isDigit) (b := kx_reader) (as := [.int (I kx_reader 3)]) (st := []) (rv := (some (.int 1))) (M2 := ((ab_up I kx_reader 5 (I kx_reader 3)), L, ab_RR, n, nc, ns)) d_Reader_toNext_107 ce_Reader_isDigit v_816 v_818 v_17 (by decide) rfl (Nat.le_of_ble_eq_true rfl) (cx_Reader_isDigit_2 (I kx_reader 3) hT g4 c15 g4 c17) (Nat.le_refl _) (Nat.le_refl _) hc hs (fun j h9 => by cases h9) (fun _ _ => rfl) ?_
              show ab_E w (d + 1) mt_Reader_toNext 110 [.ref kx_reader] [.int 1] ((ab_up I kx_reader 5 (I kx_reader 3)), L, ab_RR, n, nc, ns) res
              refine ab_if_eq (tgt := 125) d_Reader_toNext_110 (by decide) (fun c9 => absurd c9 (show ¬ (1 : Int32) = 0 from by decide)) (fun _ => ?_)
              refine ab_aload_n (i := 0) d_Reader_toNext_113 rfl rfl ?_
              refine ab_iconst (v := 2) d_Reader_toNext_114 rfl ?_
              refine ab_putI (ci := 4) (k := 4) d_Reader_toNext_115 v_771 rfl (by decide) (by decide) rfl (Or.inl rfl) rfl rfl ?_
              refine ab_aload_n (i := 0) d_Reader_toNext_118 rfl rfl ?_
              obtain ⟨I20, hC, h⟩ := h
              refine ab_callV (me2 := mt_Reader_passNumber) (b := kx_reader) (as := []) (st := []) (rv := none) (M2 := (I20, L, ab_RR, n, nc, ns)) d_Reader_toNext_119 ce_Reader_passNumber v_820 v_822 v_18 (by decide) rfl (Nat.le_of_ble_eq_true rfl) hC (Nat.le_refl _) (Nat.le_refl _) hc hs (fun j h9 => by cases h9) (fun _ _ => rfl) ?_
              show ab_E w (d + 1) mt_Reader_toNext 122 [.ref kx_reader] [] (I20, L, ab_RR, n, nc, ns) res
              refine ab_goto (tgt := 158) d_Reader_toNext_122 (by decide) ?_
              exact ab_vret d_Reader_toNext_158 rfl h
        · have h := h.2 c13
          refine ab_callV (me2 := mt_Reader_isLetter) (b := kx_reader) (as := [.int (I kx_reader 3)]) (st := []) (rv := (some (.int 1))) (M2 := ((ab_up I kx_reader 5 (I kx_reader 3)), L, ab_RR, n, nc, ns)) d_Reader_toNext_84 ce_Reader_isLetter v_808 v_810 v_15 (by decide) rfl (Nat.le_of_ble_eq_true rfl) (cx_Reader_isLetter_2 (I kx_reader 3) hT g4 c5 g4 c13) (Nat.le_refl _) (Nat.le_refl _) hc hs (fun j h9 => by cases h9) (fun _ _ => rfl) ?_
          show ab_E w (d + 1) mt_Reader_toNext 87 [.ref kx_reader] [.int 1] ((ab_up I kx_reader 5 (I kx_reader 3)), L, ab_RR, n, nc, ns) res
          refine ab_if_eq (tgt := 102) d_Reader_toNext_87 (by decide) (fun c9 => absurd c9 (show ¬ (1 : Int32) = 0 from by decide)) (fun _ => ?_)
          refine ab_aload_n (i := 0) d_Reader_toNext_90 rfl rfl ?_
          refine ab_iconst (v := 1) d_Reader_toNext_91 rfl ?_
          refine ab_putI (ci := 4) (k := 4) d_Reader_toNext_92 v_771 rfl (by decide) (by decide) rfl (Or.inl rfl) rfl rfl ?_
          refine ab_aload_n (i := 0) d_Reader_toNext_95 rfl rfl ?_
          obtain ⟨I22, hC, h⟩ := h
          refine ab_callV (me2 := mt_Reader_passWord) (b := kx_reader) (as := []) (st := []) (rv := none) (M2 := (I22, L, ab_RR, n, nc, ns)) d_Reader_toNext_96 ce_Reader_passWord v_812 v_814 v_16 (by decide) rfl (Nat.le_of_ble_eq_true rfl) hC (Nat.le_refl _) (Nat.le_refl _) hc hs (fun j h9 => by cases h9) (fun _ _ => rfl) ?_
          show ab_E w (d + 1) mt_Reader_toNext 99 [.ref kx_reader] [] (I22, L, ab_RR, n, nc, ns) res
          refine ab_goto (tgt := 158) d_Reader_toNext_99 (by decide) ?_
          exact ab_vret d_Reader_toNext_158 rfl h
    · have h := h.2 c2
      refine ab_aload_n (i := 0) d_Reader_toNext_71 rfl rfl ?_
      refine ab_iconst (v := 0) d_Reader_toNext_72 rfl ?_
      refine ab_putI (ci := 4) (k := 4) d_Reader_toNext_73 v_771 rfl (by decide) (by decide) rfl (Or.inl rfl) rfl rfl ?_
      refine ab_goto (tgt := 158) d_Reader_toNext_76 (by decide) ?_
      exact ab_vret d_Reader_toNext_158 rfl h
  · have h := h.2 c1
    refine ab_aload_n (i := 0) d_Reader_toNext_11 rfl rfl ?_
    refine ab_getR (ci := 4) (k := 0) (j := kx_tape) d_Reader_toNext_12 v_767 rfl (by decide) (by decide) rfl r_kx_reader_0 ?_
    refine ab_aload_n (i := 0) d_Reader_toNext_15 rfl rfl ?_
    refine ab_getI (ci := 4) (k := 3) d_Reader_toNext_16 v_770 rfl (by decide) (by decide) rfl ?_
    have g23 := h.1; have h := h.2
    refine ab_bald d_Reader_toNext_19 rfl rfl g23 ?_
    refine ab_bipush (v := 32) d_Reader_toNext_20 rfl ?_
    refine ab_icmp_eq (tgt := 39) d_Reader_toNext_22 (by decide) (fun c24 => ?_) (fun c24 => ?_)
    · have h := h.1 c24
      refine ab_aload_n (i := 0) d_Reader_toNext_39 rfl rfl ?_
      refine ab_dupr d_Reader_toNext_40 ?_
      refine ab_getI (ci := 4) (k := 3) d_Reader_toNext_41 v_770 rfl (by decide) (by decide) rfl ?_
      refine ab_iconst (v := 1) d_Reader_toNext_44 rfl ?_
      refine ab_iadd d_Reader_toNext_45 ?_
      refine ab_putI (ci := 4) (k := 3) d_Reader_toNext_46 v_770 rfl (by decide) (by decide) rfl (Or.inl rfl) rfl rfl ?_
      refine ab_goto (tgt := 0) d_Reader_toNext_49 (by decide) ?_
      exact h
    · have h := h.2 c24
      refine ab_aload_n (i := 0) d_Reader_toNext_25 rfl rfl ?_
      refine ab_getR (ci := 4) (k := 0) (j := kx_tape) d_Reader_toNext_26 v_767 rfl (by decide) (by decide) rfl r_kx_reader_0 ?_
      refine ab_aload_n (i := 0) d_Reader_toNext_29 rfl rfl ?_
      refine ab_getI (ci := 4) (k := 3) d_Reader_toNext_30 v_770 rfl (by decide) (by decide) rfl ?_
      refine ab_bald d_Reader_toNext_33 rfl rfl g23 ?_
      refine ab_bipush (v := 10) d_Reader_toNext_34 rfl ?_
      refine ab_icmp_ne (tgt := 52) d_Reader_toNext_36 (by decide) (fun c25 => ?_) (fun c25 => ?_)
      · have h := h.1 c25
        refine ab_aload_n (i := 0) d_Reader_toNext_52 rfl rfl ?_
        refine ab_aload_n (i := 0) d_Reader_toNext_53 rfl rfl ?_
        refine ab_getI (ci := 4) (k := 3) d_Reader_toNext_54 v_770 rfl (by decide) (by decide) rfl ?_
        refine ab_putI (ci := 4) (k := 5) d_Reader_toNext_57 v_772 rfl (by decide) (by decide) rfl (Or.inl rfl) rfl rfl ?_
        refine ab_aload_n (i := 0) d_Reader_toNext_60 rfl rfl ?_
        refine ab_getI (ci := 4) (k := 3) d_Reader_toNext_61 v_770 rfl (by decide) (by decide) rfl ?_
        refine ab_aload_n (i := 0) d_Reader_toNext_64 rfl rfl ?_
        refine ab_getI (ci := 4) (k := 1) d_Reader_toNext_65 v_768 rfl (by decide) (by decide) rfl ?_
        refine ab_icmp_lt (tgt := 79) d_Reader_toNext_68 (by decide) (fun c26 => ?_) (fun c26 => ?_)
        · have h := h.1 c26
          refine ab_aload_n (i := 0) d_Reader_toNext_79 rfl rfl ?_
          refine ab_aload_n (i := 0) d_Reader_toNext_80 rfl rfl ?_
          refine ab_getI (ci := 4) (k := 3) d_Reader_toNext_81 v_770 rfl (by decide) (by decide) rfl ?_
          by_cases c28 : (I kx_tape (I kx_reader 3).toNatClampNeg) < 97
          · have h := h.1 c28
            refine ab_callV (me2 := mt_Reader_isLetter) (b := kx_reader) (as := [.int (I kx_reader 3)]) (st := []) (rv := (some (.int 0))) (M2 := ((ab_up I kx_reader 5 (I kx_reader 3)), L, ab_RR, n, nc, ns)) d_Reader_toNext_84 ce_Reader_isLetter v_808 v_810 v_15 (by decide) rfl (Nat.le_of_ble_eq_true rfl) (cx_Reader_isLetter_0 (I kx_reader 3) hT g23 c28) (Nat.le_refl _) (Nat.le_refl _) hc hs (fun j h9 => by cases h9) (fun _ _ => rfl) ?_
            show ab_E w (d + 1) mt_Reader_toNext 87 [.ref kx_reader] [.int 0] ((ab_up I kx_reader 5 (I kx_reader 3)), L, ab_RR, n, nc, ns) res
            refine ab_if_eq (tgt := 102) d_Reader_toNext_87 (by decide) (fun _ => ?_) (fun c9 => absurd (show (0 : Int32) = 0 from by decide) c9)
            refine ab_aload_n (i := 0) d_Reader_toNext_102 rfl rfl ?_
            refine ab_aload_n (i := 0) d_Reader_toNext_103 rfl rfl ?_
            refine ab_getI (ci := 4) (k := 3) d_Reader_toNext_104 v_770 rfl (by decide) (by decide) rfl ?_
            by_cases c30 : (I kx_tape (I kx_reader 3).toNatClampNeg) < 48
            · have h := h.1 c30
              refine ab_callV (me2 := mt_Reader_isDigit) (b := kx_reader) (as := [.int (I kx_reader 3)]) (st := []) (rv := (some (.int 0))) (M2 := ((ab_up I kx_reader 5 (I kx_reader 3)), L, ab_RR, n, nc, ns)) d_Reader_toNext_107 ce_Reader_isDigit v_816 v_818 v_17 (by decide) rfl (Nat.le_of_ble_eq_true rfl) (cx_Reader_isDigit_0 (I kx_reader 3) hT g23 c30) (Nat.le_refl _) (Nat.le_refl _) hc hs (fun j h9 => by cases h9) (fun _ _ => rfl) ?_
              show ab_E w (d + 1) mt_Reader_toNext 110 [.ref kx_reader] [.int 0] ((ab_up I kx_reader 5 (I kx_reader 3)), L, ab_RR, n, nc, ns) res
              refine ab_if_eq (tgt := 125) d_Reader_toNext_110 (by decide) (fun _ => ?_) (fun c9 => absurd (show (0 : Int32) = 0 from by decide) c9)
              refine ab_aload_n (i := 0) d_Reader_toNext_125 rfl rfl ?_
              refine ab_aload_n (i := 0) d_Reader_toNext_126 rfl rfl ?_
              refine ab_getR (ci := 4) (k := 0) (j := kx_tape) d_Reader_toNext_127 v_767 rfl (by decide) (by decide) rfl r_kx_reader_0 ?_
              refine ab_aload_n (i := 0) d_Reader_toNext_130 rfl rfl ?_
              refine ab_getI (ci := 4) (k := 3) d_Reader_toNext_131 v_770 rfl (by decide) (by decide) rfl ?_
              refine ab_bald d_Reader_toNext_134 rfl rfl g23 ?_
              refine ab_bipush (v := 59) d_Reader_toNext_135 rfl ?_
              refine ab_icmp_ne (tgt := 144) d_Reader_toNext_137 (by decide) (fun c31 => ?_) (fun c31 => ?_)
              · have h := h.1 c31
                refine ab_iconst (v := 4) d_Reader_toNext_144 rfl ?_
                refine ab_putI (ci := 4) (k := 4) d_Reader_toNext_145 v_771 rfl (by decide) (by decide) rfl (Or.inl rfl) rfl rfl ?_
                refine ab_aload_n (i := 0) d_Reader_toNext_148 rfl rfl ?_
                refine ab_dupr d_Reader_toNext_149 ?_
                refine ab_getI (ci := 4) (k := 3) d_Reader_toNext_150 v_770 rfl (by decide) (by decide) rfl ?_
                refine ab_iconst (v := 1) d_Reader_toNext_153 rfl ?_
                refine ab_iadd d_Reader_toNext_154 ?_
                refine ab_putI (ci := 4) (k := 3) d_Reader_toNext_155 v_770 rfl (by decide) (by decide) rfl (Or.inl rfl) rfl rfl ?_
                exact ab_vret d_Reader_toNext_158 rfl h
              · have h := h.2 c31
                refine ab_iconst (v := 3) d_Reader_toNext_140 rfl ?_
                refine ab_goto (tgt := 145) d_Reader_toNext_141 (by decide) ?_
                refine ab_putI (ci := 4) (k := 4) d_Reader_toNext_145 v_771 rfl (by decide) (by decide) rfl (Or.inl rfl) rfl rfl ?_
                refine ab_aload_n (i := 0) d_Reader_toNext_148 rfl rfl ?_
                refine ab_dupr d_Reader_toNext_149 ?_
                refine ab_getI (ci := 4) (k := 3) d_Reader_toNext_150 v_770 rfl (by decide) (by decide) rfl ?_
                refine ab_iconst (v := 1) d_Reader_toNext_153 rfl ?_
                refine ab_iadd d_Reader_toNext_154 ?_
                refine ab_putI (ci := 4) (k := 3) d_Reader_toNext_155 v_770 rfl (by decide) (by decide) rfl (Or.inl rfl) rfl rfl ?_
                exact ab_vret d_Reader_toNext_158 rfl h
            · have h := h.2 c30
              by_cases c32 : 57 < (I kx_tape (I kx_reader 3).toNatClampNeg)
              · have h := h.1 c32
                refine ab_callV (me2 := mt_Reader_isDigit) (b := kx_reader) (as := [.int (I kx_reader 3)]) (st := []) (rv := (some (.int 0))) (M2 := ((ab_up I kx_reader 5 (I kx_reader 3)), L, ab_RR, n, nc, ns)) d_Reader_toNext_107 ce_Reader_isDigit v_816 v_818 v_17 (by decide) rfl (Nat.le_of_ble_eq_true rfl) (cx_Reader_isDigit_1 (I kx_reader 3) hT g23 c30 g23 c32) (Nat.le_refl _) (Nat.le_refl _) hc hs (fun j h9 => by cases h9) (fun _ _ => rfl) ?_
                show ab_E w (d + 1) mt_Reader_toNext 110 [.ref kx_reader] [.int 0] ((ab_up I kx_reader 5 (I kx_reader 3)), L, ab_RR, n, nc, ns) res
                refine ab_if_eq (tgt := 125) d_Reader_toNext_110 (by decide) (fun _ => ?_) (fun c9 => absurd (show (0 : Int32) = 0 from by decide) c9)
                refine ab_aload_n (i := 0) d_Reader_toNext_125 rfl rfl ?_
                refine ab_aload_n (i := 0) d_Reader_toNext_126 rfl rfl ?_
                refine ab_getR (ci := 4) (k := 0) (j := kx_tape) d_Reader_toNext_127 v_767 rfl (by decide) (by decide) rfl r_kx_reader_0 ?_
                refine ab_aload_n (i := 0) d_Reader_toNext_130 rfl rfl ?_
                refine ab_getI (ci := 4) (k := 3) d_Reader_toNext_131 v_770 rfl (by decide) (by decide) rfl ?_
                refine ab_bald d_Reader_toNext_134 rfl rfl g23 ?_
                refine ab_bipush (v := 59) d_Reader_toNext_135 rfl ?_
                refine ab_icmp_ne (tgt := 144) d_Reader_toNext_137 (by decide) (fun c33 => ?_) (fun c33 => ?_)
                · have h := h.1 c33
                  refine ab_iconst (v := 4) d_Reader_toNext_144 rfl ?_
                  refine ab_putI (ci := 4) (k := 4) d_Reader_toNext_145 v_771 rfl (by decide) (by decide) rfl (Or.inl rfl) rfl rfl ?_
                  refine ab_aload_n (i := 0) d_Reader_toNext_148 rfl rfl ?_
                  refine ab_dupr d_Reader_toNext_149 ?_
                  refine ab_getI (ci := 4) (k := 3) d_Reader_toNext_150 v_770 rfl (by decide) (by decide) rfl ?_
                  refine ab_iconst (v := 1) d_Reader_toNext_153 rfl ?_
                  refine ab_iadd d_Reader_toNext_154 ?_
                  refine ab_putI (ci := 4) (k := 3) d_Reader_toNext_155 v_770 rfl (by decide) (by decide) rfl (Or.inl rfl) rfl rfl ?_
                  exact ab_vret d_Reader_toNext_158 rfl h
                · have h := h.2 c33
                  refine ab_iconst (v := 3) d_Reader_toNext_140 rfl ?_
                  refine ab_goto (tgt := 145) d_Reader_toNext_141 (by decide) ?_
                  refine ab_putI (ci := 4) (k := 4) d_Reader_toNext_145 v_771 rfl (by decide) (by decide) rfl (Or.inl rfl) rfl rfl ?_
                  refine ab_aload_n (i := 0) d_Reader_toNext_148 rfl rfl ?_
                  refine ab_dupr d_Reader_toNext_149 ?_
                  refine ab_getI (ci := 4) (k := 3) d_Reader_toNext_150 v_770 rfl (by decide) (by decide) rfl ?_
                  refine ab_iconst (v := 1) d_Reader_toNext_153 rfl ?_
                  refine ab_iadd d_Reader_toNext_154 ?_
                  refine ab_putI (ci := 4) (k := 3) d_Reader_toNext_155 v_770 rfl (by decide) (by decide) rfl (Or.inl rfl) rfl rfl ?_
                  exact ab_vret d_Reader_toNext_158 rfl h
              · have h := h.2 c32
                refine ab_callV (me2 := mt_Reader_isDigit) (b := kx_reader) (as := [.int (I kx_reader 3)]) (st := []) (rv := (some (.int 1))) (M2 := ((ab_up I kx_reader 5 (I kx_reader 3)), L, ab_RR, n, nc, ns)) d_Reader_toNext_107 ce_Reader_isDigit v_816 v_818 v_17 (by decide) rfl (Nat.le_of_ble_eq_true rfl) (cx_Reader_isDigit_2 (I kx_reader 3) hT g23 c30 g23 c32) (Nat.le_refl _) (Nat.le_refl _) hc hs (fun j h9 => by cases h9) (fun _ _ => rfl) ?_
                show ab_E w (d + 1) mt_Reader_toNext 110 [.ref kx_reader] [.int 1] ((ab_up I kx_reader 5 (I kx_reader 3)), L, ab_RR, n, nc, ns) res
                refine ab_if_eq (tgt := 125) d_Reader_toNext_110 (by decide) (fun c9 => absurd c9 (show ¬ (1 : Int32) = 0 from by decide)) (fun _ => ?_)
                refine ab_aload_n (i := 0) d_Reader_toNext_113 rfl rfl ?_
                refine ab_iconst (v := 2) d_Reader_toNext_114 rfl ?_
                refine ab_putI (ci := 4) (k := 4) d_Reader_toNext_115 v_771 rfl (by decide) (by decide) rfl (Or.inl rfl) rfl rfl ?_
                refine ab_aload_n (i := 0) d_Reader_toNext_118 rfl rfl ?_
                obtain ⟨I35, hC, h⟩ := h
                refine ab_callV (me2 := mt_Reader_passNumber) (b := kx_reader) (as := []) (st := []) (rv := none) (M2 := (I35, L, ab_RR, n, nc, ns)) d_Reader_toNext_119 ce_Reader_passNumber v_820 v_822 v_18 (by decide) rfl (Nat.le_of_ble_eq_true rfl) hC (Nat.le_refl _) (Nat.le_refl _) hc hs (fun j h9 => by cases h9) (fun _ _ => rfl) ?_
                show ab_E w (d + 1) mt_Reader_toNext 122 [.ref kx_reader] [] (I35, L, ab_RR, n, nc, ns) res
                refine ab_goto (tgt := 158) d_Reader_toNext_122 (by decide) ?_
                exact ab_vret d_Reader_toNext_158 rfl h
          · have h := h.2 c28
            by_cases c36 : 122 < (I kx_tape (I kx_reader 3).toNatClampNeg)
            · have h := h.1 c36
              refine ab_callV (me2 := mt_Reader_isLetter) (b := kx_reader) (as := [.int (I kx_reader 3)]) (st := []) (rv := (some (.int 0))) (M2 := ((ab_up I kx_reader 5 (I kx_reader 3)), L, ab_RR, n, nc, ns)) d_Reader_toNext_84 ce_Reader_isLetter v_808 v_810 v_15 (by decide) rfl (Nat.le_of_ble_eq_true rfl) (cx_Reader_isLetter_1 (I kx_reader 3) hT g23 c28 g23 c36) (Nat.le_refl _) (Nat.le_refl _) hc hs (fun j h9 => by cases h9) (fun _ _ => rfl) ?_
              show ab_E w (d + 1) mt_Reader_toNext 87 [.ref kx_reader] [.int 0] ((ab_up I kx_reader 5 (I kx_reader 3)), L, ab_RR, n, nc, ns) res
              refine ab_if_eq (tgt := 102) d_Reader_toNext_87 (by decide) (fun _ => ?_) (fun c9 => absurd (show (0 : Int32) = 0 from by decide) c9)
              refine ab_aload_n (i := 0) d_Reader_toNext_102 rfl rfl ?_
              refine ab_aload_n (i := 0) d_Reader_toNext_103 rfl rfl ?_
              refine ab_getI (ci := 4) (k := 3) d_Reader_toNext_104 v_770 rfl (by decide) (by decide) rfl ?_
              by_cases c38 : (I kx_tape (I kx_reader 3).toNatClampNeg) < 48
              · have h := h.1 c38
                refine ab_callV (me2 := mt_Reader_isDigit) (b := kx_reader) (as := [.int (I kx_reader 3)]) (st := []) (rv := (some (.int 0))) (M2 := ((ab_up I kx_reader 5 (I kx_reader 3)), L, ab_RR, n, nc, ns)) d_Reader_toNext_107 ce_Reader_isDigit v_816 v_818 v_17 (by decide) rfl (Nat.le_of_ble_eq_true rfl) (cx_Reader_isDigit_0 (I kx_reader 3) hT g23 c38) (Nat.le_refl _) (Nat.le_refl _) hc hs (fun j h9 => by cases h9) (fun _ _ => rfl) ?_
                show ab_E w (d + 1) mt_Reader_toNext 110 [.ref kx_reader] [.int 0] ((ab_up I kx_reader 5 (I kx_reader 3)), L, ab_RR, n, nc, ns) res
                refine ab_if_eq (tgt := 125) d_Reader_toNext_110 (by decide) (fun _ => ?_) (fun c9 => absurd (show (0 : Int32) = 0 from by decide) c9)
                refine ab_aload_n (i := 0) d_Reader_toNext_125 rfl rfl ?_
                refine ab_aload_n (i := 0) d_Reader_toNext_126 rfl rfl ?_
                refine ab_getR (ci := 4) (k := 0) (j := kx_tape) d_Reader_toNext_127 v_767 rfl (by decide) (by decide) rfl r_kx_reader_0 ?_
                refine ab_aload_n (i := 0) d_Reader_toNext_130 rfl rfl ?_
                refine ab_getI (ci := 4) (k := 3) d_Reader_toNext_131 v_770 rfl (by decide) (by decide) rfl ?_
                refine ab_bald d_Reader_toNext_134 rfl rfl g23 ?_
                refine ab_bipush (v := 59) d_Reader_toNext_135 rfl ?_
                refine ab_icmp_ne (tgt := 144) d_Reader_toNext_137 (by decide) (fun c39 => ?_) (fun c39 => ?_)
                · have h := h.1 c39
                  refine ab_iconst (v := 4) d_Reader_toNext_144 rfl ?_
                  refine ab_putI (ci := 4) (k := 4) d_Reader_toNext_145 v_771 rfl (by decide) (by decide) rfl (Or.inl rfl) rfl rfl ?_
                  refine ab_aload_n (i := 0) d_Reader_toNext_148 rfl rfl ?_
                  refine ab_dupr d_Reader_toNext_149 ?_
                  refine ab_getI (ci := 4) (k := 3) d_Reader_toNext_150 v_770 rfl (by decide) (by decide) rfl ?_
                  refine ab_iconst (v := 1) d_Reader_toNext_153 rfl ?_
                  refine ab_iadd d_Reader_toNext_154 ?_
                  refine ab_putI (ci := 4) (k := 3) d_Reader_toNext_155 v_770 rfl (by decide) (by decide) rfl (Or.inl rfl) rfl rfl ?_
                  exact ab_vret d_Reader_toNext_158 rfl h
                · have h := h.2 c39
                  refine ab_iconst (v := 3) d_Reader_toNext_140 rfl ?_
                  refine ab_goto (tgt := 145) d_Reader_toNext_141 (by decide) ?_
                  refine ab_putI (ci := 4) (k := 4) d_Reader_toNext_145 v_771 rfl (by decide) (by decide) rfl (Or.inl rfl) rfl rfl ?_
                  refine ab_aload_n (i := 0) d_Reader_toNext_148 rfl rfl ?_
                  refine ab_dupr d_Reader_toNext_149 ?_
                  refine ab_getI (ci := 4) (k := 3) d_Reader_toNext_150 v_770 rfl (by decide) (by decide) rfl ?_
                  refine ab_iconst (v := 1) d_Reader_toNext_153 rfl ?_
                  refine ab_iadd d_Reader_toNext_154 ?_
                  refine ab_putI (ci := 4) (k := 3) d_Reader_toNext_155 v_770 rfl (by decide) (by decide) rfl (Or.inl rfl) rfl rfl ?_
                  exact ab_vret d_Reader_toNext_158 rfl h
              · have h := h.2 c38
                by_cases c40 : 57 < (I kx_tape (I kx_reader 3).toNatClampNeg)
                · have h := h.1 c40
                  refine ab_callV (me2 := mt_Reader_isDigit) (b := kx_reader) (as := [.int (I kx_reader 3)]) (st := []) (rv := (some (.int 0))) (M2 := ((ab_up I kx_reader 5 (I kx_reader 3)), L, ab_RR, n, nc, ns)) d_Reader_toNext_107 ce_Reader_isDigit v_816 v_818 v_17 (by decide) rfl (Nat.le_of_ble_eq_true rfl) (cx_Reader_isDigit_1 (I kx_reader 3) hT g23 c38 g23 c40) (Nat.le_refl _) (Nat.le_refl _) hc hs (fun j h9 => by cases h9) (fun _ _ => rfl) ?_
                  show ab_E w (d + 1) mt_Reader_toNext 110 [.ref kx_reader] [.int 0] ((ab_up I kx_reader 5 (I kx_reader 3)), L, ab_RR, n, nc, ns) res
                  refine ab_if_eq (tgt := 125) d_Reader_toNext_110 (by decide) (fun _ => ?_) (fun c9 => absurd (show (0 : Int32) = 0 from by decide) c9)
                  refine ab_aload_n (i := 0) d_Reader_toNext_125 rfl rfl ?_
                  refine ab_aload_n (i := 0) d_Reader_toNext_126 rfl rfl ?_
                  refine ab_getR (ci := 4) (k := 0) (j := kx_tape) d_Reader_toNext_127 v_767 rfl (by decide) (by decide) rfl r_kx_reader_0 ?_
                  refine ab_aload_n (i := 0) d_Reader_toNext_130 rfl rfl ?_
                  refine ab_getI (ci := 4) (k := 3) d_Reader_toNext_131 v_770 rfl (by decide) (by decide) rfl ?_
                  refine ab_bald d_Reader_toNext_134 rfl rfl g23 ?_
                  refine ab_bipush (v := 59) d_Reader_toNext_135 rfl ?_
                  refine ab_icmp_ne (tgt := 144) d_Reader_toNext_137 (by decide) (fun c41 => ?_) (fun c41 => ?_)
                  · have h := h.1 c41
                    refine ab_iconst (v := 4) d_Reader_toNext_144 rfl ?_
                    refine ab_putI (ci := 4) (k := 4) d_Reader_toNext_145 v_771 rfl (by decide) (by decide) rfl (Or.inl rfl) rfl rfl ?_
                    refine ab_aload_n (i := 0) d_Reader_toNext_148 rfl rfl ?_
                    refine ab_dupr d_Reader_toNext_149 ?_
                    refine ab_getI (ci := 4) (k := 3) d_Reader_toNext_150 v_770 rfl (by decide) (by decide) rfl ?_
                    refine ab_iconst (v := 1) d_Reader_toNext_153 rfl ?_
                    refine ab_iadd d_Reader_toNext_154 ?_
                    refine ab_putI (ci := 4) (k := 3) d_Reader_toNext_155 v_770 rfl (by decide) (by decide) rfl (Or.inl rfl) rfl rfl ?_
                    exact ab_vret d_Reader_toNext_158 rfl h
                  · have h := h.2 c41
                    refine ab_iconst (v := 3) d_Reader_toNext_140 rfl ?_
                    refine ab_goto (tgt := 145) d_Reader_toNext_141 (by decide) ?_
                    refine ab_putI (ci := 4) (k := 4) d_Reader_toNext_145 v_771 rfl (by decide) (by decide) rfl (Or.inl rfl) rfl rfl ?_
                    refine ab_aload_n (i := 0) d_Reader_toNext_148 rfl rfl ?_
                    refine ab_dupr d_Reader_toNext_149 ?_
                    refine ab_getI (ci := 4) (k := 3) d_Reader_toNext_150 v_770 rfl (by decide) (by decide) rfl ?_
                    refine ab_iconst (v := 1) d_Reader_toNext_153 rfl ?_
                    refine ab_iadd d_Reader_toNext_154 ?_
                    refine ab_putI (ci := 4) (k := 3) d_Reader_toNext_155 v_770 rfl (by decide) (by decide) rfl (Or.inl rfl) rfl rfl ?_
                    exact ab_vret d_Reader_toNext_158 rfl h
                · have h := h.2 c40
                  refine ab_callV (me2 := mt_Reader_isDigit) (b := kx_reader) (as := [.int (I kx_reader 3)]) (st := []) (rv := (some (.int 1))) (M2 := ((ab_up I kx_reader 5 (I kx_reader 3)), L, ab_RR, n, nc, ns)) d_Reader_toNext_107 ce_Reader_isDigit v_816 v_818 v_17 (by decide) rfl (Nat.le_of_ble_eq_true rfl) (cx_Reader_isDigit_2 (I kx_reader 3) hT g23 c38 g23 c40) (Nat.le_refl _) (Nat.le_refl _) hc hs (fun j h9 => by cases h9) (fun _ _ => rfl) ?_
                  show ab_E w (d + 1) mt_Reader_toNext 110 [.ref kx_reader] [.int 1] ((ab_up I kx_reader 5 (I kx_reader 3)), L, ab_RR, n, nc, ns) res
                  refine ab_if_eq (tgt := 125) d_Reader_toNext_110 (by decide) (fun c9 => absurd c9 (show ¬ (1 : Int32) = 0 from by decide)) (fun _ => ?_)
                  refine ab_aload_n (i := 0) d_Reader_toNext_113 rfl rfl ?_
                  refine ab_iconst (v := 2) d_Reader_toNext_114 rfl ?_
                  refine ab_putI (ci := 4) (k := 4) d_Reader_toNext_115 v_771 rfl (by decide) (by decide) rfl (Or.inl rfl) rfl rfl ?_
                  refine ab_aload_n (i := 0) d_Reader_toNext_118 rfl rfl ?_
                  obtain ⟨I43, hC, h⟩ := h
                  refine ab_callV (me2 := mt_Reader_passNumber) (b := kx_reader) (as := []) (st := []) (rv := none) (M2 := (I43, L, ab_RR, n, nc, ns)) d_Reader_toNext_119 ce_Reader_passNumber v_820 v_822 v_18 (by decide) rfl (Nat.le_of_ble_eq_true rfl) hC (Nat.le_refl _) (Nat.le_refl _) hc hs (fun j h9 => by cases h9) (fun _ _ => rfl) ?_
                  show ab_E w (d + 1) mt_Reader_toNext 122 [.ref kx_reader] [] (I43, L, ab_RR, n, nc, ns) res
                  refine ab_goto (tgt := 158) d_Reader_toNext_122 (by decide) ?_
                  exact ab_vret d_Reader_toNext_158 rfl h
            · have h := h.2 c36
              refine ab_callV (me2 := mt_Reader_isLetter) (b := kx_reader) (as := [.int (I kx_reader 3)]) (st := []) (rv := (some (.int 1))) (M2 := ((ab_up I kx_reader 5 (I kx_reader 3)), L, ab_RR, n, nc, ns)) d_Reader_toNext_84 ce_Reader_isLetter v_808 v_810 v_15 (by decide) rfl (Nat.le_of_ble_eq_true rfl) (cx_Reader_isLetter_2 (I kx_reader 3) hT g23 c28 g23 c36) (Nat.le_refl _) (Nat.le_refl _) hc hs (fun j h9 => by cases h9) (fun _ _ => rfl) ?_
              show ab_E w (d + 1) mt_Reader_toNext 87 [.ref kx_reader] [.int 1] ((ab_up I kx_reader 5 (I kx_reader 3)), L, ab_RR, n, nc, ns) res
              refine ab_if_eq (tgt := 102) d_Reader_toNext_87 (by decide) (fun c9 => absurd c9 (show ¬ (1 : Int32) = 0 from by decide)) (fun _ => ?_)
              refine ab_aload_n (i := 0) d_Reader_toNext_90 rfl rfl ?_
              refine ab_iconst (v := 1) d_Reader_toNext_91 rfl ?_
              refine ab_putI (ci := 4) (k := 4) d_Reader_toNext_92 v_771 rfl (by decide) (by decide) rfl (Or.inl rfl) rfl rfl ?_
              refine ab_aload_n (i := 0) d_Reader_toNext_95 rfl rfl ?_
              obtain ⟨I45, hC, h⟩ := h
              refine ab_callV (me2 := mt_Reader_passWord) (b := kx_reader) (as := []) (st := []) (rv := none) (M2 := (I45, L, ab_RR, n, nc, ns)) d_Reader_toNext_96 ce_Reader_passWord v_812 v_814 v_16 (by decide) rfl (Nat.le_of_ble_eq_true rfl) hC (Nat.le_refl _) (Nat.le_refl _) hc hs (fun j h9 => by cases h9) (fun _ _ => rfl) ?_
              show ab_E w (d + 1) mt_Reader_toNext 99 [.ref kx_reader] [] (I45, L, ab_RR, n, nc, ns) res
              refine ab_goto (tgt := 158) d_Reader_toNext_99 (by decide) ?_
              exact ab_vret d_Reader_toNext_158 rfl h
        · have h := h.2 c26
          refine ab_aload_n (i := 0) d_Reader_toNext_71 rfl rfl ?_
          refine ab_iconst (v := 0) d_Reader_toNext_72 rfl ?_
          refine ab_putI (ci := 4) (k := 4) d_Reader_toNext_73 v_771 rfl (by decide) (by decide) rfl (Or.inl rfl) rfl rfl ?_
          refine ab_goto (tgt := 158) d_Reader_toNext_76 (by decide) ?_
          exact ab_vret d_Reader_toNext_158 rfl h
      · have h := h.2 c25
        refine ab_aload_n (i := 0) d_Reader_toNext_39 rfl rfl ?_
        refine ab_dupr d_Reader_toNext_40 ?_
        refine ab_getI (ci := 4) (k := 3) d_Reader_toNext_41 v_770 rfl (by decide) (by decide) rfl ?_
        refine ab_iconst (v := 1) d_Reader_toNext_44 rfl ?_
        refine ab_iadd d_Reader_toNext_45 ?_
        refine ab_putI (ci := 4) (k := 3) d_Reader_toNext_46 v_770 rfl (by decide) (by decide) rfl (Or.inl rfl) rfl rfl ?_
        refine ab_goto (tgt := 0) d_Reader_toNext_49 (by decide) ?_
        exact h
theorem r_Cables_copy_1_0 {w : ab_Wd} {d n nc ns : Nat} {I : Nat → Nat → Int32} {L : Nat → Nat → Int64} {res : ab_Re} (hT : w.1.stackTraces = false)  (hc : nc ≤ res.2.2.2.2.2.1) (hs : ns ≤ res.2.2.2.2.2.2)
    (h : res = (.inl none, ((ab_row (ab_row (ab_row (ab_row (ab_row (ab_up (ab_up (ab_up I kx_now_cables 0 (I kx_trial 0)) kx_now_cables 1 (I kx_trial 1)) kx_now_cables 2 (I kx_trial 2)) kx_now_cables_first (va_cpy (I kx_trial_first) (I kx_now_cables_first) 0 0 24)) kx_now_cables_second (va_cpy (I kx_trial_second) (I kx_now_cables_second) 0 0 24)) kx_now_cables_price (va_cpy (I kx_trial_price) (I kx_now_cables_price) 0 0 24)) kx_now_cables_firm (va_cpy (I kx_trial_firm) (I kx_now_cables_firm) 0 0 24)) kx_now_cables_order (va_cpy (I kx_trial_order) (I kx_now_cables_order) 0 0 24)), L, ab_RR, n, nc, ns))) : ab_E w (d + 1) mt_Cables_copy 0 [.ref kx_now_cables, .ref kx_trial] [] (I, L, ab_RR, n, nc, ns) res := by
  refine ab_aload_n (i := 0) d_Cables_copy_0 rfl rfl ?_
  refine ab_aload_n (i := 1) d_Cables_copy_1 rfl rfl ?_
  refine ab_getI (ci := 1) (k := 0) d_Cables_copy_2 v_185 rfl (by decide) (by decide) rfl ?_
  refine ab_putI (ci := 1) (k := 0) d_Cables_copy_5 v_185 rfl (by decide) (by decide) rfl (Or.inl rfl) rfl rfl ?_
  refine ab_aload_n (i := 0) d_Cables_copy_8 rfl rfl ?_
  refine ab_aload_n (i := 1) d_Cables_copy_9 rfl rfl ?_
  refine ab_getI (ci := 1) (k := 1) d_Cables_copy_10 v_192 rfl (by decide) (by decide) rfl ?_
  refine ab_putI (ci := 1) (k := 1) d_Cables_copy_13 v_192 rfl (by decide) (by decide) rfl (Or.inl rfl) rfl rfl ?_
  refine ab_aload_n (i := 0) d_Cables_copy_16 rfl rfl ?_
  refine ab_aload_n (i := 1) d_Cables_copy_17 rfl rfl ?_
  refine ab_getI (ci := 1) (k := 2) d_Cables_copy_18 v_200 rfl (by decide) (by decide) rfl ?_
  refine ab_putI (ci := 1) (k := 2) d_Cables_copy_21 v_200 rfl (by decide) (by decide) rfl (Or.inl rfl) rfl rfl ?_
  refine ab_aload_n (i := 1) d_Cables_copy_24 rfl rfl ?_
  refine ab_getR (ci := 1) (k := 3) (j := kx_trial_first) d_Cables_copy_25 v_204 rfl (by decide) (by decide) rfl r_kx_trial_3 ?_
  refine ab_iconst (v := 0) d_Cables_copy_28 rfl ?_
  refine ab_aload_n (i := 0) d_Cables_copy_29 rfl rfl ?_
  refine ab_getR (ci := 1) (k := 3) (j := kx_now_cables_first) d_Cables_copy_30 v_204 rfl (by decide) (by decide) rfl r_kx_now_cables_3 ?_
  refine ab_iconst (v := 0) d_Cables_copy_33 rfl ?_
  refine ab_bipush (v := 24) d_Cables_copy_34 rfl ?_
  refine ab_copy d_Cables_copy_36 v_675 v_562 v_561 v_161 rfl rfl rfl rfl (by decide) (by decide) (by decide) (by decide) (by decide) (Nat.succ_le_succ (Nat.zero_le _)) (Nat.le_of_ble_eq_true rfl) ?_
  refine ab_aload_n (i := 1) d_Cables_copy_39 rfl rfl ?_
  refine ab_getR (ci := 1) (k := 4) (j := kx_trial_second) d_Cables_copy_40 v_211 rfl (by decide) (by decide) rfl r_kx_trial_4 ?_
  refine ab_iconst (v := 0) d_Cables_copy_43 rfl ?_
  refine ab_aload_n (i := 0) d_Cables_copy_44 rfl rfl ?_
  refine ab_getR (ci := 1) (k := 4) (j := kx_now_cables_second) d_Cables_copy_45 v_211 rfl (by decide) (by decide) rfl r_kx_now_cables_4 ?_
  refine ab_iconst (v := 0) d_Cables_copy_48 rfl ?_
  refine ab_bipush (v := 24) d_Cables_copy_49 rfl ?_
  refine ab_copy d_Cables_copy_51 v_675 v_562 v_561 v_161 rfl rfl rfl rfl (by decide) (by decide) (by decide) (by decide) (by decide) (Nat.succ_le_succ (Nat.zero_le _)) (Nat.le_of_ble_eq_true rfl) ?_
  refine ab_aload_n (i := 1) d_Cables_copy_54 rfl rfl ?_
  refine ab_getR (ci := 1) (k := 5) (j := kx_trial_price) d_Cables_copy_55 v_218 rfl (by decide) (by decide) rfl r_kx_trial_5 ?_
  refine ab_iconst (v := 0) d_Cables_copy_58 rfl ?_
  refine ab_aload_n (i := 0) d_Cables_copy_59 rfl rfl ?_
  refine ab_getR (ci := 1) (k := 5) (j := kx_now_cables_price) d_Cables_copy_60 v_218 rfl (by decide) (by decide) rfl r_kx_now_cables_5 ?_
  refine ab_iconst (v := 0) d_Cables_copy_63 rfl ?_
  refine ab_bipush (v := 24) d_Cables_copy_64 rfl ?_
  refine ab_copy d_Cables_copy_66 v_675 v_562 v_561 v_161 rfl rfl rfl rfl (by decide) (by decide) (by decide) (by decide) (by decide) (Nat.succ_le_succ (Nat.zero_le _)) (Nat.le_of_ble_eq_true rfl) ?_
  refine ab_aload_n (i := 1) d_Cables_copy_69 rfl rfl ?_
  refine ab_getR (ci := 1) (k := 6) (j := kx_trial_firm) d_Cables_copy_70 v_226 rfl (by decide) (by decide) rfl r_kx_trial_6 ?_
  refine ab_iconst (v := 0) d_Cables_copy_73 rfl ?_
  refine ab_aload_n (i := 0) d_Cables_copy_74 rfl rfl ?_
  refine ab_getR (ci := 1) (k := 6) (j := kx_now_cables_firm) d_Cables_copy_75 v_226 rfl (by decide) (by decide) rfl r_kx_now_cables_6 ?_
  refine ab_iconst (v := 0) d_Cables_copy_78 rfl ?_
  refine ab_bipush (v := 24) d_Cables_copy_79 rfl ?_
  refine ab_copy d_Cables_copy_81 v_675 v_562 v_561 v_161 rfl rfl rfl rfl (by decide) (by decide) (by decide) (by decide) (by decide) (Nat.succ_le_succ (Nat.zero_le _)) (Nat.le_of_ble_eq_true rfl) ?_
  refine ab_aload_n (i := 1) d_Cables_copy_84 rfl rfl ?_
  refine ab_getR (ci := 1) (k := 7) (j := kx_trial_order) d_Cables_copy_85 v_229 rfl (by decide) (by decide) rfl r_kx_trial_7 ?_
  refine ab_iconst (v := 0) d_Cables_copy_88 rfl ?_
  refine ab_aload_n (i := 0) d_Cables_copy_89 rfl rfl ?_
  refine ab_getR (ci := 1) (k := 7) (j := kx_now_cables_order) d_Cables_copy_90 v_229 rfl (by decide) (by decide) rfl r_kx_now_cables_7 ?_
  refine ab_iconst (v := 0) d_Cables_copy_93 rfl ?_
  refine ab_bipush (v := 24) d_Cables_copy_94 rfl ?_
  refine ab_copy d_Cables_copy_96 v_675 v_562 v_561 v_161 rfl rfl rfl rfl (by decide) (by decide) (by decide) (by decide) (by decide) (Nat.succ_le_succ (Nat.zero_le _)) (Nat.le_of_ble_eq_true rfl) ?_
  exact ab_vret d_Cables_copy_99 rfl h
theorem r_Roads_reach_0 {w : ab_Wd} {d n nc ns : Nat} {I : Nat → Nat → Int32} {L : Nat → Nat → Int64} {res : ab_Re} (hT : w.1.stackTraces = false) (v2 : Int32) (v3 : Int32) (hc : nc ≤ res.2.2.2.2.2.1) (hs : ns ≤ res.2.2.2.2.2.2)
    (h : ab_E w (d + 1) mt_Roads_reach 3 [.ref kx_roads, .ref kx_now_cables, .int v2, .int v3, .int 0, .null, .null] [] (I, L, ab_RR, n, nc, ns) res) : ab_E w (d + 1) mt_Roads_reach 0 [.ref kx_roads, .ref kx_now_cables, .int v2, .int v3, .null, .null, .null] [] (I, L, ab_RR, n, nc, ns) res := by
  refine ab_iconst (v := 0) d_Roads_reach_0 rfl ?_
  refine ab_istore (i := 4) d_Roads_reach_1 (by decide) (Or.inr rfl) ?_
  exact h
theorem r_Roads_reach_3 {w : ab_Wd} {d n nc ns : Nat} {I : Nat → Nat → Int32} {L : Nat → Nat → Int64} {res : ab_Re} (hT : w.1.stackTraces = false) (v2 : Int32) (v3 : Int32) (v4 : Int32) (hc : nc ≤ res.2.2.2.2.2.1) (hs : ns ≤ res.2.2.2.2.2.2)
    (h : ((10 ≤ v4 → (ab_E w (d + 1) mt_Roads_reach 32 [.ref kx_roads, .ref kx_now_cables, .int v2, .int v3, .int ((1 : Int32) <<< (v2 &&& 31)), .int 0, .null] [] (I, L, ab_RR, n, nc, ns) res)) ∧ (¬ 10 ≤ v4 → ((vp_in v4 10) ∧ ab_E w (d + 1) mt_Roads_reach 3 [.ref kx_roads, .ref kx_now_cables, .int v2, .int v3, .int (v4 + 1), .null, .null] [] ((ab_up I kx_roads_reachedBy v4.toNatClampNeg (-1)), L, ab_RR, n, nc, ns) res)))) : ab_E w (d + 1) mt_Roads_reach 3 [.ref kx_roads, .ref kx_now_cables, .int v2, .int v3, .int v4, .null, .null] [] (I, L, ab_RR, n, nc, ns) res := by
  refine ab_iload (i := 4) d_Roads_reach_3 rfl ?_
  refine ab_bipush (v := 10) d_Roads_reach_5 rfl ?_
  refine ab_icmp_ge (tgt := 24) d_Roads_reach_7 (by decide) (fun c1 => ?_) (fun c1 => ?_)
  · have h := h.1 c1
    refine ab_iconst (v := 1) d_Roads_reach_24 rfl ?_
    refine ab_iload_n (i := 2) d_Roads_reach_25 rfl rfl ?_
    refine ab_ishl d_Roads_reach_26 ?_
    refine ab_istore (i := 4) d_Roads_reach_27 (by decide) (Or.inr rfl) ?_
    refine ab_iconst (v := 0) d_Roads_reach_29 rfl ?_
    refine ab_istore (i := 5) d_Roads_reach_30 (by decide) (Or.inr rfl) ?_
    exact h
  · have h := h.2 c1
    refine ab_aload_n (i := 0) d_Roads_reach_10 rfl rfl ?_
    refine ab_getR (ci := 5) (k := 4) (j := kx_roads_reachedBy) d_Roads_reach_11 v_389 rfl (by decide) (by decide) rfl r_kx_roads_4 ?_
    refine ab_iload (i := 4) d_Roads_reach_14 rfl ?_
    refine ab_iconst (v := (-1)) d_Roads_reach_16 rfl ?_
    have g2 := h.1; have h := h.2
    refine ab_iast d_Roads_reach_17 rfl rfl g2 ?_
    refine ab_iinc (i := 4) (v := (v4 + 1)) d_Roads_reach_18 rfl rfl (by decide) (Or.inr rfl) ?_
    refine ab_goto (tgt := 3) d_Roads_reach_21 (by decide) ?_
    exact h
theorem r_Roads_reach_32 {w : ab_Wd} {d n nc ns : Nat} {I : Nat → Nat → Int32} {L : Nat → Nat → Int64} {res : ab_Re} (hT : w.1.stackTraces = false) (v2 : Int32) (v3 : Int32) (v4 : Int32) (v5 : Int32) (hc : nc ≤ res.2.2.2.2.2.1) (hs : ns ≤ res.2.2.2.2.2.2)
    (h : ((10 ≤ v5 → ((¬ ((v4 >>> (v3 &&& 31)) &&& 1) = 1 → (res = (.inl (some (.int 0)), (I, L, ab_RR, n, nc, ns)))) ∧ (((v4 >>> (v3 &&& 31)) &&& 1) = 1 → (res = (.inl (some (.int 1)), (I, L, ab_RR, n, nc, ns)))))) ∧ (¬ 10 ≤ v5 → ((¬ ((v4 >>> (v3 &&& 31)) &&& 1) = 0 → ((¬ ((v4 >>> (v3 &&& 31)) &&& 1) = 1 → (res = (.inl (some (.int 0)), (I, L, ab_RR, n, nc, ns)))) ∧ (((v4 >>> (v3 &&& 31)) &&& 1) = 1 → (res = (.inl (some (.int 1)), (I, L, ab_RR, n, nc, ns)))))) ∧ (((v4 >>> (v3 &&& 31)) &&& 1) = 0 → (ab_E w (d + 1) mt_Roads_reach 51 [.ref kx_roads, .ref kx_now_cables, .int v2, .int v3, .int v4, .int v5, .int 0] [] (I, L, ab_RR, n, nc, ns) res)))))) : ab_E w (d + 1) mt_Roads_reach 32 [.ref kx_roads, .ref kx_now_cables, .int v2, .int v3, .int v4, .int v5, .null] [] (I, L, ab_RR, n, nc, ns) res := by
  refine ab_iload (i := 5) d_Roads_reach_32 rfl ?_
  refine ab_bipush (v := 10) d_Roads_reach_34 rfl ?_
  refine ab_icmp_ge (tgt := 83) d_Roads_reach_36 (by decide) (fun c1 => ?_) (fun c1 => ?_)
  · have h := h.1 c1
    refine ab_iload (i := 4) d_Roads_reach_83 rfl ?_
    refine ab_iload_n (i := 3) d_Roads_reach_85 rfl rfl ?_
    refine ab_ishr d_Roads_reach_86 ?_
    refine ab_iconst (v := 1) d_Roads_reach_87 rfl ?_
    refine ab_iand d_Roads_reach_88 ?_
    refine ab_iconst (v := 1) d_Roads_reach_89 rfl ?_
    refine ab_icmp_ne (tgt := 97) d_Roads_reach_90 (by decide) (fun c2 => ?_) (fun c2 => ?_)
    · have h := h.1 c2
      refine ab_iconst (v := 0) d_Roads_reach_97 rfl ?_
      exact ab_iret (ty := .boolean) d_Roads_reach_98 rfl rfl h
    · have h := h.2 c2
      refine ab_iconst (v := 1) d_Roads_reach_93 rfl ?_
      refine ab_goto (tgt := 98) d_Roads_reach_94 (by decide) ?_
      exact ab_iret (ty := .boolean) d_Roads_reach_98 rfl rfl h
  · have h := h.2 c1
    refine ab_iload (i := 4) d_Roads_reach_39 rfl ?_
    refine ab_iload_n (i := 3) d_Roads_reach_41 rfl rfl ?_
    refine ab_ishr d_Roads_reach_42 ?_
    refine ab_iconst (v := 1) d_Roads_reach_43 rfl ?_
    refine ab_iand d_Roads_reach_44 ?_
    refine ab_if_ne (tgt := 83) d_Roads_reach_45 (by decide) (fun c3 => ?_) (fun c3 => ?_)
    · have h := h.1 c3
      refine ab_iload (i := 4) d_Roads_reach_83 rfl ?_
      refine ab_iload_n (i := 3) d_Roads_reach_85 rfl rfl ?_
      refine ab_ishr d_Roads_reach_86 ?_
      refine ab_iconst (v := 1) d_Roads_reach_87 rfl ?_
      refine ab_iand d_Roads_reach_88 ?_
      refine ab_iconst (v := 1) d_Roads_reach_89 rfl ?_
      refine ab_icmp_ne (tgt := 97) d_Roads_reach_90 (by decide) (fun c4 => ?_) (fun c4 => ?_)
      · have h := h.1 c4
        refine ab_iconst (v := 0) d_Roads_reach_97 rfl ?_
        exact ab_iret (ty := .boolean) d_Roads_reach_98 rfl rfl h
      · have h := h.2 c4
        refine ab_iconst (v := 1) d_Roads_reach_93 rfl ?_
        refine ab_goto (tgt := 98) d_Roads_reach_94 (by decide) ?_
        exact ab_iret (ty := .boolean) d_Roads_reach_98 rfl rfl h
    · have h := h.2 c3
      refine ab_iconst (v := 0) d_Roads_reach_48 rfl ?_
      refine ab_istore (i := 6) d_Roads_reach_49 (by decide) (Or.inr rfl) ?_
      exact h
theorem r_Roads_reach_51 {w : ab_Wd} {d n nc ns : Nat} {I : Nat → Nat → Int32} {L : Nat → Nat → Int64} {res : ab_Re} (hT : w.1.stackTraces = false) (v2 : Int32) (v3 : Int32) (v4 : Int32) (v5 : Int32) (v6 : Int32) (hc : nc ≤ res.2.2.2.2.2.1) (hs : ns ≤ res.2.2.2.2.2.2)
    (h : (((I kx_now_cables 1) ≤ v6 → (ab_E w (d + 1) mt_Roads_reach 32 [.ref kx_roads, .ref kx_now_cables, .int v2, .int v3, .int v4, .int (v5 + 1), .null] [] (I, L, ab_RR, n, nc, ns) res)) ∧ (¬ (I kx_now_cables 1) ≤ v6 → (∃ (r2 : Int32) (I3 : Nat → Nat → Int32), ab_C w d mt_Roads_reachOver [.ref kx_roads, .ref kx_now_cables, .int v6, .int v4] (I, L, ab_RR, n, nc, ns) (.inl (some (.int r2)), (I3, L, ab_RR, n, nc, ns)) ∧ ab_E w (d + 1) mt_Roads_reach 51 [.ref kx_roads, .ref kx_now_cables, .int v2, .int v3, .int r2, .int v5, .int (v6 + 1)] [] (I3, L, ab_RR, n, nc, ns) res)))) : ab_E w (d + 1) mt_Roads_reach 51 [.ref kx_roads, .ref kx_now_cables, .int v2, .int v3, .int v4, .int v5, .int v6] [] (I, L, ab_RR, n, nc, ns) res := by
  refine ab_iload (i := 6) d_Roads_reach_51 rfl ?_
  refine ab_aload_n (i := 1) d_Roads_reach_53 rfl rfl ?_
  refine ab_getI (ci := 1) (k := 1) d_Roads_reach_54 v_196 rfl (by decide) (by decide) rfl ?_
  refine ab_icmp_ge (tgt := 77) d_Roads_reach_57 (by decide) (fun c1 => ?_) (fun c1 => ?_)
  · have h := h.1 c1
    refine ab_iinc (i := 5) (v := (v5 + 1)) d_Roads_reach_77 rfl rfl (by decide) (Or.inr rfl) ?_
    refine ab_goto (tgt := 32) d_Roads_reach_80 (by decide) ?_
    refine ab_drop 6 ?_
    exact h
  · have h := h.2 c1
    refine ab_aload_n (i := 0) d_Roads_reach_60 rfl rfl ?_
    refine ab_aload_n (i := 1) d_Roads_reach_61 rfl rfl ?_
    refine ab_iload (i := 6) d_Roads_reach_62 rfl ?_
    refine ab_iload (i := 4) d_Roads_reach_64 rfl ?_
    obtain ⟨r2, I3, hC, h⟩ := h
    refine ab_callV (me2 := mt_Roads_reachOver) (b := kx_roads) (as := [.ref kx_now_cables, .int v6, .int v4]) (st := []) (rv := (some (.int r2))) (M2 := (I3, L, ab_RR, n, nc, ns)) d_Roads_reach_66 ce_Roads_reachOver v_1163 v_1165 v_53 (by decide) rfl (Nat.le_of_ble_eq_true rfl) hC (Nat.le_refl _) (Nat.le_refl _) hc hs (fun j h9 => by cases h9) (fun _ _ => rfl) ?_
    show ab_E w (d + 1) mt_Roads_reach 69 [.ref kx_roads, .ref kx_now_cables, .int v2, .int v3, .int v4, .int v5, .int v6] [.int r2] (I3, L, ab_RR, n, nc, ns) res
    refine ab_istore (i := 4) d_Roads_reach_69 (by decide) (Or.inr rfl) ?_
    refine ab_iinc (i := 6) (v := (v6 + 1)) d_Roads_reach_71 rfl rfl (by decide) (Or.inr rfl) ?_
    refine ab_goto (tgt := 51) d_Roads_reach_74 (by decide) ?_
    exact h
theorem r_Roads_use_0 {w : ab_Wd} {d n nc ns : Nat} {I : Nat → Nat → Int32} {L : Nat → Nat → Int64} {res : ab_Re} (hT : w.1.stackTraces = false) (v2 : Int32) (v3 : Int32) (hc : nc ≤ res.2.2.2.2.2.1) (hs : ns ≤ res.2.2.2.2.2.2)
    (h : ab_E w (d + 1) mt_Roads_use 6 [.ref kx_roads, .ref kx_now_cables, .int v2, .int v3, .int v3, .int 0, .null] [] (I, L, ab_RR, n, nc, ns) res) : ab_E w (d + 1) mt_Roads_use 0 [.ref kx_roads, .ref kx_now_cables, .int v2, .int v3, .null, .null, .null] [] (I, L, ab_RR, n, nc, ns) res := by
  refine ab_iload_n (i := 3) d_Roads_use_0 rfl rfl ?_
  refine ab_istore (i := 4) d_Roads_use_1 (by decide) (Or.inr rfl) ?_
  refine ab_iconst (v := 0) d_Roads_use_3 rfl ?_
  refine ab_istore (i := 5) d_Roads_use_4 (by decide) (Or.inr rfl) ?_
  exact h
theorem r_Roads_use_6 {w : ab_Wd} {d n nc ns : Nat} {I : Nat → Nat → Int32} {L : Nat → Nat → Int64} {res : ab_Re} (hT : w.1.stackTraces = false) (v2 : Int32) (v3 : Int32) (v4 : Int32) (v5 : Int32) (hc : nc ≤ res.2.2.2.2.2.1) (hs : ns ≤ res.2.2.2.2.2.2)
    (h : ((10 ≤ v5 → (res = (.inl none, (I, L, ab_RR, n, nc, ns)))) ∧ (¬ 10 ≤ v5 → ((v4 = v2 → (res = (.inl none, (I, L, ab_RR, n, nc, ns)))) ∧ (¬ v4 = v2 → ((vp_in v4 10) ∧ ((¬ (I kx_roads_reachedBy v4.toNatClampNeg) = (-1) → ((vp_in (I kx_roads_reachedBy v4.toNatClampNeg) 24) ∧ ((¬ (I kx_now_cables_second (I kx_roads_reachedBy v4.toNatClampNeg).toNatClampNeg) = v4 → (((I kx_now_cables_first (I kx_roads_reachedBy v4.toNatClampNeg).toNatClampNeg) = v4 → (ab_E w (d + 1) mt_Roads_use 6 [.ref kx_roads, .ref kx_now_cables, .int v2, .int v3, .int (I kx_now_cables_second (I kx_roads_reachedBy v4.toNatClampNeg).toNatClampNeg), .int (v5 + 1), .null] [] ((ab_up I kx_roads_flow (I kx_roads_reachedBy v4.toNatClampNeg).toNatClampNeg ((I kx_roads_flow (I kx_roads_reachedBy v4.toNatClampNeg).toNatClampNeg) + (-1))), L, ab_RR, n, nc, ns) res)) ∧ (¬ (I kx_now_cables_first (I kx_roads_reachedBy v4.toNatClampNeg).toNatClampNeg) = v4 → (ab_E w (d + 1) mt_Roads_use 6 [.ref kx_roads, .ref kx_now_cables, .int v2, .int v3, .int (I kx_now_cables_first (I kx_roads_reachedBy v4.toNatClampNeg).toNatClampNeg), .int (v5 + 1), .null] [] ((ab_up I kx_roads_flow (I kx_roads_reachedBy v4.toNatClampNeg).toNatClampNeg ((I kx_roads_flow (I kx_roads_reachedBy v4.toNatClampNeg).toNatClampNeg) + (-1))), L, ab_RR, n, nc, ns) res)))) ∧ ((I kx_now_cables_second (I kx_roads_reachedBy v4.toNatClampNeg).toNatClampNeg) = v4 → (((I kx_now_cables_first (I kx_roads_reachedBy v4.toNatClampNeg).toNatClampNeg) = v4 → (ab_E w (d + 1) mt_Roads_use 6 [.ref kx_roads, .ref kx_now_cables, .int v2, .int v3, .int (I kx_now_cables_second (I kx_roads_reachedBy v4.toNatClampNeg).toNatClampNeg), .int (v5 + 1), .null] [] ((ab_up I kx_roads_flow (I kx_roads_reachedBy v4.toNatClampNeg).toNatClampNeg ((I kx_roads_flow (I kx_roads_reachedBy v4.toNatClampNeg).toNatClampNeg) + 1)), L, ab_RR, n, nc, ns) res)) ∧ (¬ (I kx_now_cables_first (I kx_roads_reachedBy v4.toNatClampNeg).toNatClampNeg) = v4 → (ab_E w (d + 1) mt_Roads_use 6 [.ref kx_roads, .ref kx_now_cables, .int v2, .int v3, .int (I kx_now_cables_first (I kx_roads_reachedBy v4.toNatClampNeg).toNatClampNeg), .int (v5 + 1), .null] [] ((ab_up I kx_roads_flow (I kx_roads_reachedBy v4.toNatClampNeg).toNatClampNeg ((I kx_roads_flow (I kx_roads_reachedBy v4.toNatClampNeg).toNatClampNeg) + 1)), L, ab_RR, n, nc, ns) res))))))) ∧ ((I kx_roads_reachedBy v4.toNatClampNeg) = (-1) → (res = (.inl none, (I, L, ab_RR, n, nc, ns))))))))))) : ab_E w (d + 1) mt_Roads_use 6 [.ref kx_roads, .ref kx_now_cables, .int v2, .int v3, .int v4, .int v5, .null] [] (I, L, ab_RR, n, nc, ns) res := by
  refine ab_iload (i := 5) d_Roads_use_6 rfl ?_
  refine ab_bipush (v := 10) d_Roads_use_8 rfl ?_
  refine ab_icmp_ge (tgt := 78) d_Roads_use_10 (by decide) (fun c1 => ?_) (fun c1 => ?_)
  · have h := h.1 c1
    exact ab_vret d_Roads_use_78 rfl h
  · have h := h.2 c1
    refine ab_iload (i := 4) d_Roads_use_13 rfl ?_
    refine ab_iload_n (i := 2) d_Roads_use_15 rfl rfl ?_
    refine ab_icmp_eq (tgt := 78) d_Roads_use_16 (by decide) (fun c2 => ?_) (fun c2 => ?_)
    · have h := h.1 c2
      exact ab_vret d_Roads_use_78 rfl h
    · have h := h.2 c2
      refine ab_aload_n (i := 0) d_Roads_use_19 rfl rfl ?_
      refine ab_getR (ci := 5) (k := 4) (j := kx_roads_reachedBy) d_Roads_use_20 v_389 rfl (by decide) (by decide) rfl r_kx_roads_4 ?_
      refine ab_iload (i := 4) d_Roads_use_23 rfl ?_
      have g3 := h.1; have h := h.2
      refine ab_iald d_Roads_use_25 rfl rfl g3 ?_
      refine ab_istore (i := 6) d_Roads_use_26 (by decide) (Or.inr rfl) ?_
      refine ab_iload (i := 6) d_Roads_use_28 rfl ?_
      refine ab_iconst (v := (-1)) d_Roads_use_30 rfl ?_
      refine ab_icmp_ne (tgt := 35) d_Roads_use_31 (by decide) (fun c4 => ?_) (fun c4 => ?_)
      · have h := h.1 c4
        refine ab_aload_n (i := 0) d_Roads_use_35 rfl rfl ?_
        refine ab_getR (ci := 5) (k := 3) (j := kx_roads_flow) d_Roads_use_36 v_388 rfl (by decide) (by decide) rfl r_kx_roads_3 ?_
        refine ab_iload (i := 6) d_Roads_use_39 rfl ?_
        refine ab_dup2 d_Roads_use_41 ?_
        have g5 := h.1; have h := h.2
        refine ab_iald d_Roads_use_42 rfl rfl g5 ?_
        refine ab_aload_n (i := 1) d_Roads_use_43 rfl rfl ?_
        refine ab_getR (ci := 1) (k := 4) (j := kx_now_cables_second) d_Roads_use_44 v_215 rfl (by decide) (by decide) rfl r_kx_now_cables_4 ?_
        refine ab_iload (i := 6) d_Roads_use_47 rfl ?_
        refine ab_iald d_Roads_use_49 rfl rfl g5 ?_
        refine ab_iload (i := 4) d_Roads_use_50 rfl ?_
        refine ab_icmp_ne (tgt := 59) d_Roads_use_52 (by decide) (fun c6 => ?_) (fun c6 => ?_)
        · have h := h.1 c6
          refine ab_iconst (v := (-1)) d_Roads_use_59 rfl ?_
          refine ab_iadd d_Roads_use_60 ?_
          refine ab_iast d_Roads_use_61 rfl rfl g5 ?_
          refine ab_aload_n (i := 1) d_Roads_use_62 rfl rfl ?_
          refine ab_iload (i := 6) d_Roads_use_63 rfl ?_
          refine ab_iload (i := 4) d_Roads_use_65 rfl ?_
          by_cases c8 : (I kx_now_cables_first (I kx_roads_reachedBy v4.toNatClampNeg).toNatClampNeg) = v4
          · have h := h.1 c8
            refine ab_callV (me2 := mt_Cables_otherEnd) (b := kx_now_cables) (as := [.int (I kx_roads_reachedBy v4.toNatClampNeg), .int v4]) (st := []) (rv := (some (.int (I kx_now_cables_second (I kx_roads_reachedBy v4.toNatClampNeg).toNatClampNeg)))) (M2 := ((ab_up I kx_roads_flow (I kx_roads_reachedBy v4.toNatClampNeg).toNatClampNeg ((I kx_roads_flow (I kx_roads_reachedBy v4.toNatClampNeg).toNatClampNeg) + (-1))), L, ab_RR, n, nc, ns)) d_Roads_use_67 ce_Cables_otherEnd v_1171 v_1107 v_1108 (by decide) rfl (Nat.le_of_ble_eq_true rfl) (cx_Cables_otherEnd_1 (I kx_roads_reachedBy v4.toNatClampNeg) v4 hT g5 c8 g5) (Nat.le_refl _) (Nat.le_refl _) hc hs (fun j h9 => by cases h9) (fun _ _ => rfl) ?_
            show ab_E w (d + 1) mt_Roads_use 70 [.ref kx_roads, .ref kx_now_cables, .int v2, .int v3, .int v4, .int v5, .int (I kx_roads_reachedBy v4.toNatClampNeg)] [.int (I kx_now_cables_second (I kx_roads_reachedBy v4.toNatClampNeg).toNatClampNeg)] ((ab_up I kx_roads_flow (I kx_roads_reachedBy v4.toNatClampNeg).toNatClampNeg ((I kx_roads_flow (I kx_roads_reachedBy v4.toNatClampNeg).toNatClampNeg) + (-1))), L, ab_RR, n, nc, ns) res
            refine ab_istore (i := 4) d_Roads_use_70 (by decide) (Or.inr rfl) ?_
            refine ab_iinc (i := 5) (v := (v5 + 1)) d_Roads_use_72 rfl rfl (by decide) (Or.inr rfl) ?_
            refine ab_goto (tgt := 6) d_Roads_use_75 (by decide) ?_
            refine ab_drop 6 ?_
            exact h
          · have h := h.2 c8
            refine ab_callV (me2 := mt_Cables_otherEnd) (b := kx_now_cables) (as := [.int (I kx_roads_reachedBy v4.toNatClampNeg), .int v4]) (st := []) (rv := (some (.int (I kx_now_cables_first (I kx_roads_reachedBy v4.toNatClampNeg).toNatClampNeg)))) (M2 := ((ab_up I kx_roads_flow (I kx_roads_reachedBy v4.toNatClampNeg).toNatClampNeg ((I kx_roads_flow (I kx_roads_reachedBy v4.toNatClampNeg).toNatClampNeg) + (-1))), L, ab_RR, n, nc, ns)) d_Roads_use_67 ce_Cables_otherEnd v_1171 v_1107 v_1108 (by decide) rfl (Nat.le_of_ble_eq_true rfl) (cx_Cables_otherEnd_0 (I kx_roads_reachedBy v4.toNatClampNeg) v4 hT g5 c8 g5) (Nat.le_refl _) (Nat.le_refl _) hc hs (fun j h9 => by cases h9) (fun _ _ => rfl) ?_
            show ab_E w (d + 1) mt_Roads_use 70 [.ref kx_roads, .ref kx_now_cables, .int v2, .int v3, .int v4, .int v5, .int (I kx_roads_reachedBy v4.toNatClampNeg)] [.int (I kx_now_cables_first (I kx_roads_reachedBy v4.toNatClampNeg).toNatClampNeg)] ((ab_up I kx_roads_flow (I kx_roads_reachedBy v4.toNatClampNeg).toNatClampNeg ((I kx_roads_flow (I kx_roads_reachedBy v4.toNatClampNeg).toNatClampNeg) + (-1))), L, ab_RR, n, nc, ns) res
            refine ab_istore (i := 4) d_Roads_use_70 (by decide) (Or.inr rfl) ?_
            refine ab_iinc (i := 5) (v := (v5 + 1)) d_Roads_use_72 rfl rfl (by decide) (Or.inr rfl) ?_
            refine ab_goto (tgt := 6) d_Roads_use_75 (by decide) ?_
            refine ab_drop 6 ?_
            exact h
        · have h := h.2 c6
          refine ab_iconst (v := 1) d_Roads_use_55 rfl ?_
          refine ab_goto (tgt := 60) d_Roads_use_56 (by decide) ?_
          refine ab_iadd d_Roads_use_60 ?_
          refine ab_iast d_Roads_use_61 rfl rfl g5 ?_
          refine ab_aload_n (i := 1) d_Roads_use_62 rfl rfl ?_
          refine ab_iload (i := 6) d_Roads_use_63 rfl ?_
          refine ab_iload (i := 4) d_Roads_use_65 rfl ?_
          by_cases c10 : (I kx_now_cables_first (I kx_roads_reachedBy v4.toNatClampNeg).toNatClampNeg) = v4
          · have h := h.1 c10
            refine ab_callV (me2 := mt_Cables_otherEnd) (b := kx_now_cables) (as := [.int (I kx_roads_reachedBy v4.toNatClampNeg), .int v4]) (st := []) (rv := (some (.int (I kx_now_cables_second (I kx_roads_reachedBy v4.toNatClampNeg).toNatClampNeg)))) (M2 := ((ab_up I kx_roads_flow (I kx_roads_reachedBy v4.toNatClampNeg).toNatClampNeg ((I kx_roads_flow (I kx_roads_reachedBy v4.toNatClampNeg).toNatClampNeg) + 1)), L, ab_RR, n, nc, ns)) d_Roads_use_67 ce_Cables_otherEnd v_1171 v_1107 v_1108 (by decide) rfl (Nat.le_of_ble_eq_true rfl) (cx_Cables_otherEnd_1 (I kx_roads_reachedBy v4.toNatClampNeg) v4 hT g5 c10 g5) (Nat.le_refl _) (Nat.le_refl _) hc hs (fun j h9 => by cases h9) (fun _ _ => rfl) ?_
            show ab_E w (d + 1) mt_Roads_use 70 [.ref kx_roads, .ref kx_now_cables, .int v2, .int v3, .int v4, .int v5, .int (I kx_roads_reachedBy v4.toNatClampNeg)] [.int (I kx_now_cables_second (I kx_roads_reachedBy v4.toNatClampNeg).toNatClampNeg)] ((ab_up I kx_roads_flow (I kx_roads_reachedBy v4.toNatClampNeg).toNatClampNeg ((I kx_roads_flow (I kx_roads_reachedBy v4.toNatClampNeg).toNatClampNeg) + 1)), L, ab_RR, n, nc, ns) res
            refine ab_istore (i := 4) d_Roads_use_70 (by decide) (Or.inr rfl) ?_
            refine ab_iinc (i := 5) (v := (v5 + 1)) d_Roads_use_72 rfl rfl (by decide) (Or.inr rfl) ?_
            refine ab_goto (tgt := 6) d_Roads_use_75 (by decide) ?_
            refine ab_drop 6 ?_
            exact h
          · have h := h.2 c10
            refine ab_callV (me2 := mt_Cables_otherEnd) (b := kx_now_cables) (as := [.int (I kx_roads_reachedBy v4.toNatClampNeg), .int v4]) (st := []) (rv := (some (.int (I kx_now_cables_first (I kx_roads_reachedBy v4.toNatClampNeg).toNatClampNeg)))) (M2 := ((ab_up I kx_roads_flow (I kx_roads_reachedBy v4.toNatClampNeg).toNatClampNeg ((I kx_roads_flow (I kx_roads_reachedBy v4.toNatClampNeg).toNatClampNeg) + 1)), L, ab_RR, n, nc, ns)) d_Roads_use_67 ce_Cables_otherEnd v_1171 v_1107 v_1108 (by decide) rfl (Nat.le_of_ble_eq_true rfl) (cx_Cables_otherEnd_0 (I kx_roads_reachedBy v4.toNatClampNeg) v4 hT g5 c10 g5) (Nat.le_refl _) (Nat.le_refl _) hc hs (fun j h9 => by cases h9) (fun _ _ => rfl) ?_
            show ab_E w (d + 1) mt_Roads_use 70 [.ref kx_roads, .ref kx_now_cables, .int v2, .int v3, .int v4, .int v5, .int (I kx_roads_reachedBy v4.toNatClampNeg)] [.int (I kx_now_cables_first (I kx_roads_reachedBy v4.toNatClampNeg).toNatClampNeg)] ((ab_up I kx_roads_flow (I kx_roads_reachedBy v4.toNatClampNeg).toNatClampNeg ((I kx_roads_flow (I kx_roads_reachedBy v4.toNatClampNeg).toNatClampNeg) + 1)), L, ab_RR, n, nc, ns) res
            refine ab_istore (i := 4) d_Roads_use_70 (by decide) (Or.inr rfl) ?_
            refine ab_iinc (i := 5) (v := (v5 + 1)) d_Roads_use_72 rfl rfl (by decide) (Or.inr rfl) ?_
            refine ab_goto (tgt := 6) d_Roads_use_75 (by decide) ?_
            refine ab_drop 6 ?_
            exact h
      · have h := h.2 c4
        exact ab_vret d_Roads_use_34 rfl h
theorem r_K_unite_0_0 {w : ab_Wd} {d n nc ns : Nat} {I : Nat → Nat → Int32} {L : Nat → Nat → Int64} {res : ab_Re} (hT : w.1.stackTraces = false) (v1 : Int32) (v2 : Int32) (hc : nc ≤ res.2.2.2.2.2.1) (hs : ns ≤ res.2.2.2.2.2.2)
    (h : (vp_in v1 10) ∧ (vp_in v2 10) ∧ ((¬ (ab_min32 (I kx_trialNet_piece v1.toNatClampNeg) (I kx_trialNet_piece v2.toNatClampNeg)) = (ab_max32 (I kx_trialNet_piece v1.toNatClampNeg) (I kx_trialNet_piece v2.toNatClampNeg)) → (ab_E w (d + 1) mt_K_unite 33 [.ref kx_trialNet_piece, .int v1, .int v2, .int (ab_min32 (I kx_trialNet_piece v1.toNatClampNeg) (I kx_trialNet_piece v2.toNatClampNeg)), .int (ab_max32 (I kx_trialNet_piece v1.toNatClampNeg) (I kx_trialNet_piece v2.toNatClampNeg)), .int (ab_max32 (I kx_trialNet_piece v1.toNatClampNeg) (I kx_trialNet_piece v2.toNatClampNeg))] [] (I, L, ab_RR, n, nc, ns) res)) ∧ ((ab_min32 (I kx_trialNet_piece v1.toNatClampNeg) (I kx_trialNet_piece v2.toNatClampNeg)) = (ab_max32 (I kx_trialNet_piece v1.toNatClampNeg) (I kx_trialNet_piece v2.toNatClampNeg)) → (res = (.inl (some (.int 0)), (I, L, ab_RR, n, nc, ns)))))) : ab_E w (d + 1) mt_K_unite 0 [.ref kx_trialNet_piece, .int v1, .int v2, .null, .null, .null] [] (I, L, ab_RR, n, nc, ns) res := by
  refine ab_aload_n (i := 0) d_K_unite_0 rfl rfl ?_
  refine ab_iload_n (i := 1) d_K_unite_1 rfl rfl ?_
  have g1 := h.1; have h := h.2
  refine ab_iald d_K_unite_2 rfl rfl g1 ?_
  refine ab_aload_n (i := 0) d_K_unite_3 rfl rfl ?_
  refine ab_iload_n (i := 2) d_K_unite_4 rfl rfl ?_
  have g2 := h.1; have h := h.2
  refine ab_iald d_K_unite_5 rfl rfl g2 ?_
  refine ab_min d_K_unite_6 v_447 v_448 v_150 v_449 (Nat.succ_le_succ (Nat.zero_le _)) (Nat.le_of_ble_eq_true rfl) hc hs ?_
  refine ab_istore_n (i := 3) d_K_unite_9 rfl (by decide) (Or.inr rfl) ?_
  refine ab_aload_n (i := 0) d_K_unite_10 rfl rfl ?_
  refine ab_iload_n (i := 1) d_K_unite_11 rfl rfl ?_
  refine ab_iald d_K_unite_12 rfl rfl g1 ?_
  refine ab_aload_n (i := 0) d_K_unite_13 rfl rfl ?_
  refine ab_iload_n (i := 2) d_K_unite_14 rfl rfl ?_
  refine ab_iald d_K_unite_15 rfl rfl g2 ?_
  refine ab_max d_K_unite_16 v_450 v_451 v_150 v_452 (Nat.succ_le_succ (Nat.zero_le _)) (Nat.le_of_ble_eq_true rfl) hc hs ?_
  refine ab_istore (i := 4) d_K_unite_19 (by decide) (Or.inr rfl) ?_
  refine ab_iload_n (i := 3) d_K_unite_21 rfl rfl ?_
  refine ab_iload (i := 4) d_K_unite_22 rfl ?_
  refine ab_icmp_ne (tgt := 29) d_K_unite_24 (by decide) (fun c3 => ?_) (fun c3 => ?_)
  · have h := h.1 c3
    refine ab_iload (i := 4) d_K_unite_29 rfl ?_
    refine ab_istore (i := 5) d_K_unite_31 (by decide) (Or.inr rfl) ?_
    exact h
  · have h := h.2 c3
    refine ab_iconst (v := 0) d_K_unite_27 rfl ?_
    exact ab_iret (ty := .boolean) d_K_unite_28 rfl rfl h
theorem r_K_unite_0_33 {w : ab_Wd} {d n nc ns : Nat} {I : Nat → Nat → Int32} {L : Nat → Nat → Int64} {res : ab_Re} (hT : w.1.stackTraces = false) (v1 : Int32) (v2 : Int32) (v3 : Int32) (v4 : Int32) (v5 : Int32) (hc : nc ≤ res.2.2.2.2.2.1) (hs : ns ≤ res.2.2.2.2.2.2)
    (h : ((10 ≤ v5 → (res = (.inl (some (.int 1)), (I, L, ab_RR, n, nc, ns)))) ∧ (¬ 10 ≤ v5 → ((vp_in v5 10) ∧ ((¬ (I kx_trialNet_piece v5.toNatClampNeg) = v4 → (ab_E w (d + 1) mt_K_unite 33 [.ref kx_trialNet_piece, .int v1, .int v2, .int v3, .int v4, .int (v5 + 1)] [] (I, L, ab_RR, n, nc, ns) res)) ∧ ((I kx_trialNet_piece v5.toNatClampNeg) = v4 → (ab_E w (d + 1) mt_K_unite 33 [.ref kx_trialNet_piece, .int v1, .int v2, .int v3, .int v4, .int (v5 + 1)] [] ((ab_up I kx_trialNet_piece v5.toNatClampNeg v3), L, ab_RR, n, nc, ns) res))))))) : ab_E w (d + 1) mt_K_unite 33 [.ref kx_trialNet_piece, .int v1, .int v2, .int v3, .int v4, .int v5] [] (I, L, ab_RR, n, nc, ns) res := by
  refine ab_iload (i := 5) d_K_unite_33 rfl ?_
  refine ab_aload_n (i := 0) d_K_unite_35 rfl rfl ?_
  refine ab_alen (v := 10) d_K_unite_36 (by decide) (by decide) rfl ?_
  refine ab_icmp_ge (tgt := 60) d_K_unite_37 (by decide) (fun c1 => ?_) (fun c1 => ?_)
  · have h := h.1 c1
    refine ab_iconst (v := 1) d_K_unite_60 rfl ?_
    exact ab_iret (ty := .boolean) d_K_unite_61 rfl rfl h
  · have h := h.2 c1
    refine ab_aload_n (i := 0) d_K_unite_40 rfl rfl ?_
    refine ab_iload (i := 5) d_K_unite_41 rfl ?_
    have g2 := h.1; have h := h.2
    refine ab_iald d_K_unite_43 rfl rfl g2 ?_
    refine ab_iload (i := 4) d_K_unite_44 rfl ?_
    refine ab_icmp_ne (tgt := 54) d_K_unite_46 (by decide) (fun c3 => ?_) (fun c3 => ?_)
    · have h := h.1 c3
      refine ab_iinc (i := 5) (v := (v5 + 1)) d_K_unite_54 rfl rfl (by decide) (Or.inr rfl) ?_
      refine ab_goto (tgt := 33) d_K_unite_57 (by decide) ?_
      exact h
    · have h := h.2 c3
      refine ab_aload_n (i := 0) d_K_unite_49 rfl rfl ?_
      refine ab_iload (i := 5) d_K_unite_50 rfl ?_
      refine ab_iload_n (i := 3) d_K_unite_52 rfl rfl ?_
      refine ab_iast d_K_unite_53 rfl rfl g2 ?_
      refine ab_iinc (i := 5) (v := (v5 + 1)) d_K_unite_54 rfl rfl (by decide) (Or.inr rfl) ?_
      refine ab_goto (tgt := 33) d_K_unite_57 (by decide) ?_
      exact h
theorem r_Likes_choices_0 {w : ab_Wd} {d n nc ns : Nat} {I : Nat → Nat → Int32} {L : Nat → Nat → Int64} {res : ab_Re} (hT : w.1.stackTraces = false)  (hc : nc ≤ res.2.2.2.2.2.1) (hs : ns ≤ res.2.2.2.2.2.2)
    (h : ab_E w (d + 1) mt_Likes_choices 4 [.ref kx_likes, .int 0, .int 0, .null, .null, .null, .null] [] (I, L, ab_RR, n, nc, ns) res) : ab_E w (d + 1) mt_Likes_choices 0 [.ref kx_likes, .null, .null, .null, .null, .null, .null] [] (I, L, ab_RR, n, nc, ns) res := by
  refine ab_iconst (v := 0) d_Likes_choices_0 rfl ?_
  refine ab_istore_n (i := 1) d_Likes_choices_1 rfl (by decide) (Or.inr rfl) ?_
  refine ab_iconst (v := 0) d_Likes_choices_2 rfl ?_
  refine ab_istore_n (i := 2) d_Likes_choices_3 rfl (by decide) (Or.inr rfl) ?_
  exact h
theorem r_Likes_choices_4 {w : ab_Wd} {d n nc ns : Nat} {I : Nat → Nat → Int32} {L : Nat → Nat → Int64} {res : ab_Re} (hT : w.1.stackTraces = false) (v1 : Int32) (v2 : Int32) (hc : nc ≤ res.2.2.2.2.2.1) (hs : ns ≤ res.2.2.2.2.2.2)
    (h : ((10 ≤ v2 → (ab_E w (d + 1) mt_Likes_choices 51 [.ref kx_likes, .int v1, .long 1, .null, .int 0, .null, .null] [] (I, L, ab_RR, n, nc, ns) res)) ∧ (¬ 10 ≤ v2 → ((vp_in v2 10) ∧ ((¬ (I kx_likes_before v2.toNatClampNeg) = v2 → (ab_E w (d + 1) mt_Likes_choices 4 [.ref kx_likes, .int v1, .int (v2 + 1), .null, .null, .null, .null] [] (I, L, ab_RR, n, nc, ns) res)) ∧ ((I kx_likes_before v2.toNatClampNeg) = v2 → (((I kx_likes_behind v2.toNatClampNeg) = v2 → (ab_E w (d + 1) mt_Likes_choices 4 [.ref kx_likes, .int v1, .int (v2 + 1), .null, .null, .null, .null] [] (I, L, ab_RR, n, nc, ns) res)) ∧ (¬ (I kx_likes_behind v2.toNatClampNeg) = v2 → ((vp_in v1 10) ∧ ab_E w (d + 1) mt_Likes_choices 4 [.ref kx_likes, .int (v1 + 1), .int (v2 + 1), .null, .null, .null, .null] [] ((ab_up I kx_likes_rows v1.toNatClampNeg v2), L, ab_RR, n, nc, ns) res))))))))) : ab_E w (d + 1) mt_Likes_choices 4 [.ref kx_likes, .int v1, .int v2, .null, .null, .null, .null] [] (I, L, ab_RR, n, nc, ns) res := by
  refine ab_iload_n (i := 2) d_Likes_choices_4 rfl rfl ?_
  refine ab_bipush (v := 10) d_Likes_choices_5 rfl ?_
  refine ab_icmp_ge (tgt := 46) d_Likes_choices_7 (by decide) (fun c1 => ?_) (fun c1 => ?_)
  · have h := h.1 c1
    refine ab_lconst (v := 1) d_Likes_choices_46 rfl ?_
    refine ab_lstore_n (i := 2) d_Likes_choices_47 rfl (by decide) (Or.inr rfl) ?_
    refine ab_iconst (v := 0) d_Likes_choices_48 rfl ?_
    refine ab_istore (i := 4) d_Likes_choices_49 (by decide) (Or.inr rfl) ?_
    exact h
  · have h := h.2 c1
    refine ab_aload_n (i := 0) d_Likes_choices_10 rfl rfl ?_
    refine ab_getR (ci := 3) (k := 0) (j := kx_likes_before) d_Likes_choices_11 v_407 rfl (by decide) (by decide) rfl r_kx_likes_0 ?_
    refine ab_iload_n (i := 2) d_Likes_choices_14 rfl rfl ?_
    have g2 := h.1; have h := h.2
    refine ab_iald d_Likes_choices_15 rfl rfl g2 ?_
    refine ab_iload_n (i := 2) d_Likes_choices_16 rfl rfl ?_
    refine ab_icmp_ne (tgt := 40) d_Likes_choices_17 (by decide) (fun c3 => ?_) (fun c3 => ?_)
    · have h := h.1 c3
      refine ab_iinc (i := 2) (v := (v2 + 1)) d_Likes_choices_40 rfl rfl (by decide) (Or.inr rfl) ?_
      refine ab_goto (tgt := 4) d_Likes_choices_43 (by decide) ?_
      exact h
    · have h := h.2 c3
      refine ab_aload_n (i := 0) d_Likes_choices_20 rfl rfl ?_
      refine ab_getR (ci := 3) (k := 1) (j := kx_likes_behind) d_Likes_choices_21 v_408 rfl (by decide) (by decide) rfl r_kx_likes_1 ?_
      refine ab_iload_n (i := 2) d_Likes_choices_24 rfl rfl ?_
      refine ab_iald d_Likes_choices_25 rfl rfl g2 ?_
      refine ab_iload_n (i := 2) d_Likes_choices_26 rfl rfl ?_
      refine ab_icmp_eq (tgt := 40) d_Likes_choices_27 (by decide) (fun c4 => ?_) (fun c4 => ?_)
      · have h := h.1 c4
        refine ab_iinc (i := 2) (v := (v2 + 1)) d_Likes_choices_40 rfl rfl (by decide) (Or.inr rfl) ?_
        refine ab_goto (tgt := 4) d_Likes_choices_43 (by decide) ?_
        exact h
      · have h := h.2 c4
        refine ab_aload_n (i := 0) d_Likes_choices_30 rfl rfl ?_
        refine ab_getR (ci := 3) (k := 3) (j := kx_likes_rows) d_Likes_choices_31 v_410 rfl (by decide) (by decide) rfl r_kx_likes_3 ?_
        refine ab_iload_n (i := 1) d_Likes_choices_34 rfl rfl ?_
        refine ab_iload_n (i := 2) d_Likes_choices_35 rfl rfl ?_
        have g5 := h.1; have h := h.2
        refine ab_iast d_Likes_choices_36 rfl rfl g5 ?_
        refine ab_iinc (i := 1) (v := (v1 + 1)) d_Likes_choices_37 rfl rfl (by decide) (Or.inr rfl) ?_
        refine ab_iinc (i := 2) (v := (v2 + 1)) d_Likes_choices_40 rfl rfl (by decide) (Or.inr rfl) ?_
        refine ab_goto (tgt := 4) d_Likes_choices_43 (by decide) ?_
        exact h
theorem r_Likes_choices_51 {w : ab_Wd} {d n nc ns : Nat} {I : Nat → Nat → Int32} {L : Nat → Nat → Int64} {res : ab_Re} (hT : w.1.stackTraces = false) (v1 : Int32) (v2 : Int64) (v4 : Int32) (hc : nc ≤ res.2.2.2.2.2.1) (hs : ns ≤ res.2.2.2.2.2.2)
    (h : ((v1 ≤ v4 → (res = (.inl (some (.long v2)), (I, L, ab_RR, n, nc, ns)))) ∧ (¬ v1 ≤ v4 → ((vp_in v4 10) ∧ (vp_in (((I kx_likes_rows v4.toNatClampNeg) * 10) + (I kx_likes_rows v4.toNatClampNeg)) 100) ∧ ∃ (L5 : Nat → Nat → Int64), ab_C w d mt_Likes_eliminate [.ref kx_likes, .int v4, .int v1, .long v2] (I, L, ab_RR, n, nc, ns) (.inl none, (I, L5, ab_RR, n, nc, ns)) ∧ ab_E w (d + 1) mt_Likes_choices 51 [.ref kx_likes, .int v1, .long (L kx_likes_matrix (((I kx_likes_rows v4.toNatClampNeg) * 10) + (I kx_likes_rows v4.toNatClampNeg)).toNatClampNeg), .null, .int (v4 + 1), .null, .null] [] (I, L5, ab_RR, n, nc, ns) res)))) : ab_E w (d + 1) mt_Likes_choices 51 [.ref kx_likes, .int v1, .long v2, .null, .int v4, .null, .null] [] (I, L, ab_RR, n, nc, ns) res := by
  refine ab_iload (i := 4) d_Likes_choices_51 rfl ?_
  refine ab_iload_n (i := 1) d_Likes_choices_53 rfl rfl ?_
  refine ab_icmp_ge (tgt := 99) d_Likes_choices_54 (by decide) (fun c1 => ?_) (fun c1 => ?_)
  · have h := h.1 c1
    refine ab_lload_n (i := 2) d_Likes_choices_99 rfl rfl ?_
    exact ab_lret d_Likes_choices_100 rfl h
  · have h := h.2 c1
    refine ab_lload_n (i := 2) d_Likes_choices_57 rfl rfl ?_
    refine ab_lstore (i := 5) d_Likes_choices_58 (by decide) (Or.inr rfl) ?_
    refine ab_aload_n (i := 0) d_Likes_choices_60 rfl rfl ?_
    refine ab_getR (ci := 3) (k := 2) (j := kx_likes_matrix) d_Likes_choices_61 v_409 rfl (by decide) (by decide) rfl r_kx_likes_2 ?_
    refine ab_aload_n (i := 0) d_Likes_choices_64 rfl rfl ?_
    refine ab_getR (ci := 3) (k := 3) (j := kx_likes_rows) d_Likes_choices_65 v_410 rfl (by decide) (by decide) rfl r_kx_likes_3 ?_
    refine ab_iload (i := 4) d_Likes_choices_68 rfl ?_
    have g2 := h.1; have h := h.2
    refine ab_iald d_Likes_choices_70 rfl rfl g2 ?_
    refine ab_bipush (v := 10) d_Likes_choices_71 rfl ?_
    refine ab_imul d_Likes_choices_73 ?_
    refine ab_aload_n (i := 0) d_Likes_choices_74 rfl rfl ?_
    refine ab_getR (ci := 3) (k := 3) (j := kx_likes_rows) d_Likes_choices_75 v_410 rfl (by decide) (by decide) rfl r_kx_likes_3 ?_
    refine ab_iload (i := 4) d_Likes_choices_78 rfl ?_
    refine ab_iald d_Likes_choices_80 rfl rfl g2 ?_
    refine ab_iadd d_Likes_choices_81 ?_
    have g3 := h.1; have h := h.2
    refine ab_lald d_Likes_choices_82 rfl rfl g3 ?_
    refine ab_lstore_n (i := 2) d_Likes_choices_83 rfl (by decide) (Or.inr rfl) ?_
    refine ab_aload_n (i := 0) d_Likes_choices_84 rfl rfl ?_
    refine ab_iload (i := 4) d_Likes_choices_85 rfl ?_
    refine ab_iload_n (i := 1) d_Likes_choices_87 rfl rfl ?_
    refine ab_lload (i := 5) d_Likes_choices_88 rfl ?_
    obtain ⟨L5, hC, h⟩ := h
    refine ab_callV (me2 := mt_Likes_eliminate) (b := kx_likes) (as := [.int v4, .int v1, .long v2]) (st := []) (rv := none) (M2 := (I, L5, ab_RR, n, nc, ns)) d_Likes_choices_90 ce_Likes_eliminate v_552 v_554 v_8 (by decide) rfl (Nat.le_of_ble_eq_true rfl) hC (Nat.le_refl _) (Nat.le_refl _) hc hs (fun j h9 => by cases h9) (fun _ _ => rfl) ?_
    show ab_E w (d + 1) mt_Likes_choices 93 [.ref kx_likes, .int v1, .long (L kx_likes_matrix (((I kx_likes_rows v4.toNatClampNeg) * 10) + (I kx_likes_rows v4.toNatClampNeg)).toNatClampNeg), .null, .int v4, .long v2, .null] [] (I, L5, ab_RR, n, nc, ns) res
    refine ab_iinc (i := 4) (v := (v4 + 1)) d_Likes_choices_93 rfl rfl (by decide) (Or.inr rfl) ?_
    refine ab_goto (tgt := 51) d_Likes_choices_96 (by decide) ?_
    refine ab_drop 5 ?_
    exact h
theorem r_Likes_clearMatrix_0 {w : ab_Wd} {d n nc ns : Nat} {I : Nat → Nat → Int32} {L : Nat → Nat → Int64} {res : ab_Re} (hT : w.1.stackTraces = false)  (hc : nc ≤ res.2.2.2.2.2.1) (hs : ns ≤ res.2.2.2.2.2.2)
    (h : ab_E w d mt_Likes_clearMatrix 2 [.ref kx_likes, .int 0] [] (I, L, ab_RR, n, nc, ns) res) : ab_E w d mt_Likes_clearMatrix 0 [.ref kx_likes, .null] [] (I, L, ab_RR, n, nc, ns) res := by
  refine ab_iconst (v := 0) d_Likes_clearMatrix_0 rfl ?_
  refine ab_istore_n (i := 1) d_Likes_clearMatrix_1 rfl (by decide) (Or.inr rfl) ?_
  exact h
theorem r_Likes_clearMatrix_2 {w : ab_Wd} {d n nc ns : Nat} {I : Nat → Nat → Int32} {L : Nat → Nat → Int64} {res : ab_Re} (hT : w.1.stackTraces = false) (v1 : Int32) (hc : nc ≤ res.2.2.2.2.2.1) (hs : ns ≤ res.2.2.2.2.2.2)
    (h : ((100 ≤ v1 → (res = (.inl none, (I, L, ab_RR, n, nc, ns)))) ∧ (¬ 100 ≤ v1 → ((vp_in v1 100) ∧ ab_E w d mt_Likes_clearMatrix 2 [.ref kx_likes, .int (v1 + 1)] [] (I, (ab_upL L kx_likes_matrix v1.toNatClampNeg 0), ab_RR, n, nc, ns) res)))) : ab_E w d mt_Likes_clearMatrix 2 [.ref kx_likes, .int v1] [] (I, L, ab_RR, n, nc, ns) res := by
  refine ab_iload_n (i := 1) d_Likes_clearMatrix_2 rfl rfl ?_
  refine ab_aload_n (i := 0) d_Likes_clearMatrix_3 rfl rfl ?_
  refine ab_getR (ci := 3) (k := 2) (j := kx_likes_matrix) d_Likes_clearMatrix_4 v_409 rfl (by decide) (by decide) rfl r_kx_likes_2 ?_
  refine ab_alen (v := 100) d_Likes_clearMatrix_7 (by decide) (by decide) rfl ?_
  refine ab_icmp_ge (tgt := 24) d_Likes_clearMatrix_8 (by decide) (fun c1 => ?_) (fun c1 => ?_)
  · have h := h.1 c1
    exact ab_vret d_Likes_clearMatrix_24 rfl h
  · have h := h.2 c1
    refine ab_aload_n (i := 0) d_Likes_clearMatrix_11 rfl rfl ?_
    refine ab_getR (ci := 3) (k := 2) (j := kx_likes_matrix) d_Likes_clearMatrix_12 v_409 rfl (by decide) (by decide) rfl r_kx_likes_2 ?_
    refine ab_iload_n (i := 1) d_Likes_clearMatrix_15 rfl rfl ?_
    refine ab_lconst (v := 0) d_Likes_clearMatrix_16 rfl ?_
    have g2 := h.1; have h := h.2
    refine ab_last d_Likes_clearMatrix_17 rfl rfl g2 ?_
    refine ab_iinc (i := 1) (v := (v1 + 1)) d_Likes_clearMatrix_18 rfl rfl (by decide) (Or.inr rfl) ?_
    refine ab_goto (tgt := 2) d_Likes_clearMatrix_21 (by decide) ?_
    exact h
