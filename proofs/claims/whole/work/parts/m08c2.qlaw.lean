theorem q_W_law_1168 {w : ab_Wd} {d n nc ns : Nat} {I : Nat → Nat → Int32} {L : Nat → Nat → Int64} {res : ab_Re} (v4 : Int32) (hc : nc ≤ res.2.2.2.2.2.1) (hs : ns ≤ res.2.2.2.2.2.2)
    (h : (vp_in (v4 + 1) w.2.2.2.2.1) ∧ (vp_in (v4 + 2) w.2.2.2.2.1) ∧ ∃ (r3 : Int32) (I4 : Nat → Nat → Int32), ab_C w d mt_K_price [.ref kx, .int (w.2.2.2.2.2.1 (v4 + 1).toNatClampNeg), .int (w.2.2.2.2.2.1 (v4 + 2).toNatClampNeg)] (I, L, ab_RR, n, nc, ns) (.inl (some (.int r3)), (I4, L, ab_RR, n, nc, ns)) ∧ (vp_in (v4 + 1) w.2.2.2.2.1) ∧ (vp_in (v4 + 2) w.2.2.2.2.1) ∧ ∃ (r7 : Int32) (I8 : Nat → Nat → Int32), ab_C w d mt_M_price [.ref mx, .int (w.2.2.2.2.2.1 (v4 + 1).toNatClampNeg), .int (w.2.2.2.2.2.1 (v4 + 2).toNatClampNeg)] (I4, L, ab_RR, n, nc, ns) (.inl (some (.int r7)), (I8, L, ab_RR, n, nc, ns)) ∧ ((r3 = r7 → (ab_E w (d + 1) mt_W_law 1658 [.ref 34, .ref kx, .ref mx, .ref ox_out, .int v4, .null, .null] [] (I8, L, ab_RR, n, nc, ns) res)) ∧ (¬ r3 = r7 → (res = (.inl (some (.int 0)), (I8, L, ab_RR, n, nc, ns)))))) : ab_E w (d + 1) mt_W_law 1168 [.ref 34, .ref kx, .ref mx, .ref ox_out, .int v4, .null, .null] [] (I, L, ab_RR, n, nc, ns) res := by
  refine ab_aload_n (i := 1) d_W_law_1168 rfl rfl ?_
  refine ab_aload_n (i := 0) d_W_law_1169 rfl rfl ?_
  refine ab_iload (i := 4) d_W_law_1170 rfl ?_
  refine ab_iconst (v := 1) d_W_law_1172 rfl ?_
  refine ab_iadd d_W_law_1173 ?_
  have g1 := h.1; have h := h.2
  refine ab_sald d_W_law_1174 g1 ?_
  refine ab_aload_n (i := 0) d_W_law_1175 rfl rfl ?_
  refine ab_iload (i := 4) d_W_law_1176 rfl ?_
  refine ab_iconst (v := 2) d_W_law_1178 rfl ?_
  refine ab_iadd d_W_law_1179 ?_
  have g2 := h.1; have h := h.2
  refine ab_sald d_W_law_1180 g2 ?_
  obtain ⟨r3, I4, hC, h⟩ := h
  refine ab_callV (me2 := mt_K_price) (b := kx) (as := [.int (w.2.2.2.2.2.1 (v4 + 1).toNatClampNeg), .int (w.2.2.2.2.2.1 (v4 + 2).toNatClampNeg)]) (st := []) (rv := (some (.int r3))) (M2 := (I4, L, ab_RR, n, nc, ns)) d_W_law_1181 ce_K_price v_563 v_564 v_565 (by decide) rfl (Nat.le_of_ble_eq_true rfl) hC (Nat.le_refl _) (Nat.le_refl _) hc hs (fun j h9 => by cases h9) (fun _ _ => rfl) ?_
  show ab_E w (d + 1) mt_W_law 1184 [.ref 34, .ref kx, .ref mx, .ref ox_out, .int v4, .null, .null] [.int r3] (I4, L, ab_RR, n, nc, ns) res
  refine ab_aload_n (i := 2) d_W_law_1184 rfl rfl ?_
  refine ab_aload_n (i := 0) d_W_law_1185 rfl rfl ?_
  refine ab_iload (i := 4) d_W_law_1186 rfl ?_
  refine ab_iconst (v := 1) d_W_law_1188 rfl ?_
  refine ab_iadd d_W_law_1189 ?_
  have g5 := h.1; have h := h.2
  refine ab_sald d_W_law_1190 g5 ?_
  refine ab_aload_n (i := 0) d_W_law_1191 rfl rfl ?_
  refine ab_iload (i := 4) d_W_law_1192 rfl ?_
  refine ab_iconst (v := 2) d_W_law_1194 rfl ?_
  refine ab_iadd d_W_law_1195 ?_
  have g6 := h.1; have h := h.2
  refine ab_sald d_W_law_1196 g6 ?_
  obtain ⟨r7, I8, hC, h⟩ := h
  refine ab_callV (me2 := mt_M_price) (b := mx) (as := [.int (w.2.2.2.2.2.1 (v4 + 1).toNatClampNeg), .int (w.2.2.2.2.2.1 (v4 + 2).toNatClampNeg)]) (st := [.int r3]) (rv := (some (.int r7))) (M2 := (I8, L, ab_RR, n, nc, ns)) d_W_law_1197 ce_M_price v_1896 v_1897 v_1898 (by decide) rfl (Nat.le_of_ble_eq_true rfl) hC (Nat.le_refl _) (Nat.le_refl _) hc hs (fun j h9 => by cases h9) (fun _ _ => rfl) ?_
  show ab_E w (d + 1) mt_W_law 1200 [.ref 34, .ref kx, .ref mx, .ref ox_out, .int v4, .null, .null] [.int r7, .int r3] (I8, L, ab_RR, n, nc, ns) res
  refine ab_icmp_eq (tgt := 1658) d_W_law_1200 (by decide) (fun c9 => ?_) (fun c9 => ?_)
  · have h := h.1 c9
    exact h
  · have h := h.2 c9
    refine ab_iconst (v := 0) d_W_law_1203 rfl ?_
    exact ab_iret (ty := .boolean) d_W_law_1204 rfl rfl h
theorem q_W_law_1205 {w : ab_Wd} {d n nc ns : Nat} {I : Nat → Nat → Int32} {L : Nat → Nat → Int64} {res : ab_Re} (v4 : Int32) (hc : nc ≤ res.2.2.2.2.2.1) (hs : ns ≤ res.2.2.2.2.2.2)
    (h : (vp_in (v4 + 1) w.2.2.2.2.1) ∧ (vp_in (v4 + 2) w.2.2.2.2.1) ∧ ∃ (r3 : Int32) (I4 : Nat → Nat → Int32), ab_C w d mt_K_all [.ref kx, .int (w.2.2.2.2.2.1 (v4 + 1).toNatClampNeg), .int (w.2.2.2.2.2.1 (v4 + 2).toNatClampNeg)] (I, L, ab_RR, n, nc, ns) (.inl (some (.int r3)), (I4, L, ab_RR, n, nc, ns)) ∧ (vp_in (v4 + 1) w.2.2.2.2.1) ∧ (vp_in (v4 + 2) w.2.2.2.2.1) ∧ ∃ (r7 : Int32) (I8 : Nat → Nat → Int32), ab_C w d mt_M_all [.ref mx, .int (w.2.2.2.2.2.1 (v4 + 1).toNatClampNeg), .int (w.2.2.2.2.2.1 (v4 + 2).toNatClampNeg)] (I4, L, ab_RR, n, nc, ns) (.inl (some (.int r7)), (I8, L, ab_RR, n, nc, ns)) ∧ ((r3 = r7 → (ab_E w (d + 1) mt_W_law 1658 [.ref 34, .ref kx, .ref mx, .ref ox_out, .int v4, .null, .null] [] (I8, L, ab_RR, n, nc, ns) res)) ∧ (¬ r3 = r7 → (res = (.inl (some (.int 0)), (I8, L, ab_RR, n, nc, ns)))))) : ab_E w (d + 1) mt_W_law 1205 [.ref 34, .ref kx, .ref mx, .ref ox_out, .int v4, .null, .null] [] (I, L, ab_RR, n, nc, ns) res := by
  refine ab_aload_n (i := 1) d_W_law_1205 rfl rfl ?_
  refine ab_aload_n (i := 0) d_W_law_1206 rfl rfl ?_
  refine ab_iload (i := 4) d_W_law_1207 rfl ?_
  refine ab_iconst (v := 1) d_W_law_1209 rfl ?_
  refine ab_iadd d_W_law_1210 ?_
  have g1 := h.1; have h := h.2
  refine ab_sald d_W_law_1211 g1 ?_
  refine ab_aload_n (i := 0) d_W_law_1212 rfl rfl ?_
  refine ab_iload (i := 4) d_W_law_1213 rfl ?_
  refine ab_iconst (v := 2) d_W_law_1215 rfl ?_
  refine ab_iadd d_W_law_1216 ?_
  have g2 := h.1; have h := h.2
  refine ab_sald d_W_law_1217 g2 ?_
  obtain ⟨r3, I4, hC, h⟩ := h
  refine ab_callV (me2 := mt_K_all) (b := kx) (as := [.int (w.2.2.2.2.2.1 (v4 + 1).toNatClampNeg), .int (w.2.2.2.2.2.1 (v4 + 2).toNatClampNeg)]) (st := []) (rv := (some (.int r3))) (M2 := (I4, L, ab_RR, n, nc, ns)) d_W_law_1218 ce_K_all v_606 v_607 v_608 (by decide) rfl (Nat.le_of_ble_eq_true rfl) hC (Nat.le_refl _) (Nat.le_refl _) hc hs (fun j h9 => by cases h9) (fun _ _ => rfl) ?_
  show ab_E w (d + 1) mt_W_law 1221 [.ref 34, .ref kx, .ref mx, .ref ox_out, .int v4, .null, .null] [.int r3] (I4, L, ab_RR, n, nc, ns) res
  refine ab_aload_n (i := 2) d_W_law_1221 rfl rfl ?_
  refine ab_aload_n (i := 0) d_W_law_1222 rfl rfl ?_
  refine ab_iload (i := 4) d_W_law_1223 rfl ?_
  refine ab_iconst (v := 1) d_W_law_1225 rfl ?_
  refine ab_iadd d_W_law_1226 ?_
  have g5 := h.1; have h := h.2
  refine ab_sald d_W_law_1227 g5 ?_
  refine ab_aload_n (i := 0) d_W_law_1228 rfl rfl ?_
  refine ab_iload (i := 4) d_W_law_1229 rfl ?_
  refine ab_iconst (v := 2) d_W_law_1231 rfl ?_
  refine ab_iadd d_W_law_1232 ?_
  have g6 := h.1; have h := h.2
  refine ab_sald d_W_law_1233 g6 ?_
  obtain ⟨r7, I8, hC, h⟩ := h
  refine ab_callV (me2 := mt_M_all) (b := mx) (as := [.int (w.2.2.2.2.2.1 (v4 + 1).toNatClampNeg), .int (w.2.2.2.2.2.1 (v4 + 2).toNatClampNeg)]) (st := [.int r3]) (rv := (some (.int r7))) (M2 := (I8, L, ab_RR, n, nc, ns)) d_W_law_1234 ce_M_all v_1920 v_1921 v_1922 (by decide) rfl (Nat.le_of_ble_eq_true rfl) hC (Nat.le_refl _) (Nat.le_refl _) hc hs (fun j h9 => by cases h9) (fun _ _ => rfl) ?_
  show ab_E w (d + 1) mt_W_law 1237 [.ref 34, .ref kx, .ref mx, .ref ox_out, .int v4, .null, .null] [.int r7, .int r3] (I8, L, ab_RR, n, nc, ns) res
  refine ab_icmp_eq (tgt := 1658) d_W_law_1237 (by decide) (fun c9 => ?_) (fun c9 => ?_)
  · have h := h.1 c9
    exact h
  · have h := h.2 c9
    refine ab_iconst (v := 0) d_W_law_1240 rfl ?_
    exact ab_iret (ty := .boolean) d_W_law_1241 rfl rfl h
theorem q_W_law_1242 {w : ab_Wd} {d n nc ns : Nat} {I : Nat → Nat → Int32} {L : Nat → Nat → Int64} {res : ab_Re} (v4 : Int32) (hc : nc ≤ res.2.2.2.2.2.1) (hs : ns ≤ res.2.2.2.2.2.2)
    (h : (vp_in (v4 + 1) w.2.2.2.2.1) ∧ ∃ (r2 : Int32) (I3 : Nat → Nat → Int32), ab_C w d mt_K_breaks [.ref kx, .int (w.2.2.2.2.2.1 (v4 + 1).toNatClampNeg)] (I, L, ab_RR, n, nc, ns) (.inl (some (.int r2)), (I3, L, ab_RR, n, nc, ns)) ∧ (vp_in (v4 + 1) w.2.2.2.2.1) ∧ ∃ (r5 : Int32) (I6 : Nat → Nat → Int32), ab_C w d mt_M_breaks [.ref mx, .int (w.2.2.2.2.2.1 (v4 + 1).toNatClampNeg)] (I3, L, ab_RR, n, nc, ns) (.inl (some (.int r5)), (I6, L, ab_RR, n, nc, ns)) ∧ ((r2 = r5 → (ab_E w (d + 1) mt_W_law 1658 [.ref 34, .ref kx, .ref mx, .ref ox_out, .int v4, .null, .null] [] (I6, L, ab_RR, n, nc, ns) res)) ∧ (¬ r2 = r5 → (res = (.inl (some (.int 0)), (I6, L, ab_RR, n, nc, ns)))))) : ab_E w (d + 1) mt_W_law 1242 [.ref 34, .ref kx, .ref mx, .ref ox_out, .int v4, .null, .null] [] (I, L, ab_RR, n, nc, ns) res := by
  refine ab_aload_n (i := 1) d_W_law_1242 rfl rfl ?_
  refine ab_aload_n (i := 0) d_W_law_1243 rfl rfl ?_
  refine ab_iload (i := 4) d_W_law_1244 rfl ?_
  refine ab_iconst (v := 1) d_W_law_1246 rfl ?_
  refine ab_iadd d_W_law_1247 ?_
  have g1 := h.1; have h := h.2
  refine ab_sald d_W_law_1248 g1 ?_
  obtain ⟨r2, I3, hC, h⟩ := h
  refine ab_callV (me2 := mt_K_breaks) (b := kx) (as := [.int (w.2.2.2.2.2.1 (v4 + 1).toNatClampNeg)]) (st := []) (rv := (some (.int r2))) (M2 := (I3, L, ab_RR, n, nc, ns)) d_W_law_1249 ce_K_breaks v_620 v_621 v_622 (by decide) rfl (Nat.le_of_ble_eq_true rfl) hC (Nat.le_refl _) (Nat.le_refl _) hc hs (fun j h9 => by cases h9) (fun _ _ => rfl) ?_
  show ab_E w (d + 1) mt_W_law 1252 [.ref 34, .ref kx, .ref mx, .ref ox_out, .int v4, .null, .null] [.int r2] (I3, L, ab_RR, n, nc, ns) res
  refine ab_aload_n (i := 2) d_W_law_1252 rfl rfl ?_
  refine ab_aload_n (i := 0) d_W_law_1253 rfl rfl ?_
  refine ab_iload (i := 4) d_W_law_1254 rfl ?_
  refine ab_iconst (v := 1) d_W_law_1256 rfl ?_
  refine ab_iadd d_W_law_1257 ?_
  have g4 := h.1; have h := h.2
  refine ab_sald d_W_law_1258 g4 ?_
  obtain ⟨r5, I6, hC, h⟩ := h
  refine ab_callV (me2 := mt_M_breaks) (b := mx) (as := [.int (w.2.2.2.2.2.1 (v4 + 1).toNatClampNeg)]) (st := [.int r2]) (rv := (some (.int r5))) (M2 := (I6, L, ab_RR, n, nc, ns)) d_W_law_1259 ce_M_breaks v_1928 v_1929 v_1930 (by decide) rfl (Nat.le_of_ble_eq_true rfl) hC (Nat.le_refl _) (Nat.le_refl _) hc hs (fun j h9 => by cases h9) (fun _ _ => rfl) ?_
  show ab_E w (d + 1) mt_W_law 1262 [.ref 34, .ref kx, .ref mx, .ref ox_out, .int v4, .null, .null] [.int r5, .int r2] (I6, L, ab_RR, n, nc, ns) res
  refine ab_icmp_eq (tgt := 1658) d_W_law_1262 (by decide) (fun c7 => ?_) (fun c7 => ?_)
  · have h := h.1 c7
    exact h
  · have h := h.2 c7
    refine ab_iconst (v := 0) d_W_law_1265 rfl ?_
    exact ab_iret (ty := .boolean) d_W_law_1266 rfl rfl h
theorem q_W_law_1267 {w : ab_Wd} {d n nc ns : Nat} {I : Nat → Nat → Int32} {L : Nat → Nat → Int64} {res : ab_Re} (v4 : Int32) (hc : nc ≤ res.2.2.2.2.2.1) (hs : ns ≤ res.2.2.2.2.2.2)
    (h : (vp_in (v4 + 1) w.2.2.2.2.1) ∧ ∃ (r2 : Int32) (I3 : Nat → Nat → Int32), ab_C w d mt_K_mend [.ref kx, .int (w.2.2.2.2.2.1 (v4 + 1).toNatClampNeg)] (I, L, ab_RR, n, nc, ns) (.inl (some (.int r2)), (I3, L, ab_RR, n, nc, ns)) ∧ (vp_in (v4 + 1) w.2.2.2.2.1) ∧ ∃ (r5 : Int32) (I6 : Nat → Nat → Int32), ab_C w d mt_M_mend [.ref mx, .int (w.2.2.2.2.2.1 (v4 + 1).toNatClampNeg)] (I3, L, ab_RR, n, nc, ns) (.inl (some (.int r5)), (I6, L, ab_RR, n, nc, ns)) ∧ ((r2 = r5 → (ab_E w (d + 1) mt_W_law 1658 [.ref 34, .ref kx, .ref mx, .ref ox_out, .int v4, .null, .null] [] (I6, L, ab_RR, n, nc, ns) res)) ∧ (¬ r2 = r5 → (res = (.inl (some (.int 0)), (I6, L, ab_RR, n, nc, ns)))))) : ab_E w (d + 1) mt_W_law 1267 [.ref 34, .ref kx, .ref mx, .ref ox_out, .int v4, .null, .null] [] (I, L, ab_RR, n, nc, ns) res := by
  refine ab_aload_n (i := 1) d_W_law_1267 rfl rfl ?_
  refine ab_aload_n (i := 0) d_W_law_1268 rfl rfl ?_
  refine ab_iload (i := 4) d_W_law_1269 rfl ?_
  refine ab_iconst (v := 1) d_W_law_1271 rfl ?_
  refine ab_iadd d_W_law_1272 ?_
  have g1 := h.1; have h := h.2
  refine ab_sald d_W_law_1273 g1 ?_
  obtain ⟨r2, I3, hC, h⟩ := h
  refine ab_callV (me2 := mt_K_mend) (b := kx) (as := [.int (w.2.2.2.2.2.1 (v4 + 1).toNatClampNeg)]) (st := []) (rv := (some (.int r2))) (M2 := (I3, L, ab_RR, n, nc, ns)) d_W_law_1274 ce_K_mend v_625 v_626 v_627 (by decide) rfl (Nat.le_of_ble_eq_true rfl) hC (Nat.le_refl _) (Nat.le_refl _) hc hs (fun j h9 => by cases h9) (fun _ _ => rfl) ?_
  show ab_E w (d + 1) mt_W_law 1277 [.ref 34, .ref kx, .ref mx, .ref ox_out, .int v4, .null, .null] [.int r2] (I3, L, ab_RR, n, nc, ns) res
  refine ab_aload_n (i := 2) d_W_law_1277 rfl rfl ?_
  refine ab_aload_n (i := 0) d_W_law_1278 rfl rfl ?_
  refine ab_iload (i := 4) d_W_law_1279 rfl ?_
  refine ab_iconst (v := 1) d_W_law_1281 rfl ?_
  refine ab_iadd d_W_law_1282 ?_
  have g4 := h.1; have h := h.2
  refine ab_sald d_W_law_1283 g4 ?_
  obtain ⟨r5, I6, hC, h⟩ := h
  refine ab_callV (me2 := mt_M_mend) (b := mx) (as := [.int (w.2.2.2.2.2.1 (v4 + 1).toNatClampNeg)]) (st := [.int r2]) (rv := (some (.int r5))) (M2 := (I6, L, ab_RR, n, nc, ns)) d_W_law_1284 ce_M_mend v_1940 v_1941 v_1942 (by decide) rfl (Nat.le_of_ble_eq_true rfl) hC (Nat.le_refl _) (Nat.le_refl _) hc hs (fun j h9 => by cases h9) (fun _ _ => rfl) ?_
  show ab_E w (d + 1) mt_W_law 1287 [.ref 34, .ref kx, .ref mx, .ref ox_out, .int v4, .null, .null] [.int r5, .int r2] (I6, L, ab_RR, n, nc, ns) res
  refine ab_icmp_eq (tgt := 1658) d_W_law_1287 (by decide) (fun c7 => ?_) (fun c7 => ?_)
  · have h := h.1 c7
    exact h
  · have h := h.2 c7
    refine ab_iconst (v := 0) d_W_law_1290 rfl ?_
    exact ab_iret (ty := .boolean) d_W_law_1291 rfl rfl h
theorem q_W_law_1292 {w : ab_Wd} {d n nc ns : Nat} {I : Nat → Nat → Int32} {L : Nat → Nat → Int64} {res : ab_Re} (v4 : Int32) (hc : nc ≤ res.2.2.2.2.2.1) (hs : ns ≤ res.2.2.2.2.2.2)
    (h : (vp_in (v4 + 1) w.2.2.2.2.1) ∧ (vp_in (v4 + 2) w.2.2.2.2.1) ∧ (vp_in (v4 + 3) w.2.2.2.2.1) ∧ (vp_in (v4 + 4) w.2.2.2.2.1) ∧ ∃ (r5 : Int32) (I6 : Nat → Nat → Int32), ab_C w d mt_K_lay [.ref kx, .int (w.2.2.2.2.2.1 (v4 + 1).toNatClampNeg), .int (w.2.2.2.2.2.1 (v4 + 2).toNatClampNeg), .int (w.2.2.2.2.2.1 (v4 + 3).toNatClampNeg), .int (w.2.2.2.2.2.1 (v4 + 4).toNatClampNeg)] (I, L, ab_RR, n, nc, ns) (.inl (some (.int r5)), (I6, L, ab_RR, n, nc, ns)) ∧ (vp_in (v4 + 1) w.2.2.2.2.1) ∧ (vp_in (v4 + 2) w.2.2.2.2.1) ∧ (vp_in (v4 + 3) w.2.2.2.2.1) ∧ (vp_in (v4 + 4) w.2.2.2.2.1) ∧ ∃ (r11 : Int32) (I12 : Nat → Nat → Int32), ab_C w d mt_M_lay [.ref mx, .int (w.2.2.2.2.2.1 (v4 + 1).toNatClampNeg), .int (w.2.2.2.2.2.1 (v4 + 2).toNatClampNeg), .int (w.2.2.2.2.2.1 (v4 + 3).toNatClampNeg), .int (w.2.2.2.2.2.1 (v4 + 4).toNatClampNeg)] (I6, L, ab_RR, n, nc, ns) (.inl (some (.int r11)), (I12, L, ab_RR, n, nc, ns)) ∧ ((r5 = r11 → (ab_E w (d + 1) mt_W_law 1658 [.ref 34, .ref kx, .ref mx, .ref ox_out, .int v4, .null, .null] [] (I12, L, ab_RR, n, nc, ns) res)) ∧ (¬ r5 = r11 → (res = (.inl (some (.int 0)), (I12, L, ab_RR, n, nc, ns)))))) : ab_E w (d + 1) mt_W_law 1292 [.ref 34, .ref kx, .ref mx, .ref ox_out, .int v4, .null, .null] [] (I, L, ab_RR, n, nc, ns) res := by
  refine ab_aload_n (i := 1) d_W_law_1292 rfl rfl ?_
  refine ab_aload_n (i := 0) d_W_law_1293 rfl rfl ?_
  refine ab_iload (i := 4) d_W_law_1294 rfl ?_
  refine ab_iconst (v := 1) d_W_law_1296 rfl ?_
  refine ab_iadd d_W_law_1297 ?_
  have g1 := h.1; have h := h.2
  refine ab_sald d_W_law_1298 g1 ?_
  refine ab_aload_n (i := 0) d_W_law_1299 rfl rfl ?_
  refine ab_iload (i := 4) d_W_law_1300 rfl ?_
  refine ab_iconst (v := 2) d_W_law_1302 rfl ?_
  refine ab_iadd d_W_law_1303 ?_
  have g2 := h.1; have h := h.2
  refine ab_sald d_W_law_1304 g2 ?_
  refine ab_aload_n (i := 0) d_W_law_1305 rfl rfl ?_
  refine ab_iload (i := 4) d_W_law_1306 rfl ?_
  refine ab_iconst (v := 3) d_W_law_1308 rfl ?_
  refine ab_iadd d_W_law_1309 ?_
  have g3 := h.1; have h := h.2
  refine ab_sald d_W_law_1310 g3 ?_
  refine ab_aload_n (i := 0) d_W_law_1311 rfl rfl ?_
  refine ab_iload (i := 4) d_W_law_1312 rfl ?_
  refine ab_iconst (v := 4) d_W_law_1314 rfl ?_
  refine ab_iadd d_W_law_1315 ?_
  have g4 := h.1; have h := h.2
  refine ab_sald d_W_law_1316 g4 ?_
  obtain ⟨r5, I6, hC, h⟩ := h
  refine ab_callV (me2 := mt_K_lay) (b := kx) (as := [.int (w.2.2.2.2.2.1 (v4 + 1).toNatClampNeg), .int (w.2.2.2.2.2.1 (v4 + 2).toNatClampNeg), .int (w.2.2.2.2.2.1 (v4 + 3).toNatClampNeg), .int (w.2.2.2.2.2.1 (v4 + 4).toNatClampNeg)]) (st := []) (rv := (some (.int r5))) (M2 := (I6, L, ab_RR, n, nc, ns)) d_W_law_1317 ce_K_lay v_629 v_630 v_631 (by decide) rfl (Nat.le_of_ble_eq_true rfl) hC (Nat.le_refl _) (Nat.le_refl _) hc hs (fun j h9 => by cases h9) (fun _ _ => rfl) ?_
  show ab_E w (d + 1) mt_W_law 1320 [.ref 34, .ref kx, .ref mx, .ref ox_out, .int v4, .null, .null] [.int r5] (I6, L, ab_RR, n, nc, ns) res
  refine ab_aload_n (i := 2) d_W_law_1320 rfl rfl ?_
  refine ab_aload_n (i := 0) d_W_law_1321 rfl rfl ?_
  refine ab_iload (i := 4) d_W_law_1322 rfl ?_
  refine ab_iconst (v := 1) d_W_law_1324 rfl ?_
  refine ab_iadd d_W_law_1325 ?_
  have g7 := h.1; have h := h.2
  refine ab_sald d_W_law_1326 g7 ?_
  refine ab_aload_n (i := 0) d_W_law_1327 rfl rfl ?_
  refine ab_iload (i := 4) d_W_law_1328 rfl ?_
  refine ab_iconst (v := 2) d_W_law_1330 rfl ?_
  refine ab_iadd d_W_law_1331 ?_
  have g8 := h.1; have h := h.2
  refine ab_sald d_W_law_1332 g8 ?_
  refine ab_aload_n (i := 0) d_W_law_1333 rfl rfl ?_
  refine ab_iload (i := 4) d_W_law_1334 rfl ?_
  refine ab_iconst (v := 3) d_W_law_1336 rfl ?_
  refine ab_iadd d_W_law_1337 ?_
  have g9 := h.1; have h := h.2
  refine ab_sald d_W_law_1338 g9 ?_
  refine ab_aload_n (i := 0) d_W_law_1339 rfl rfl ?_
  refine ab_iload (i := 4) d_W_law_1340 rfl ?_
  refine ab_iconst (v := 4) d_W_law_1342 rfl ?_
  refine ab_iadd d_W_law_1343 ?_
  have g10 := h.1; have h := h.2
  refine ab_sald d_W_law_1344 g10 ?_
  obtain ⟨r11, I12, hC, h⟩ := h
  refine ab_callV (me2 := mt_M_lay) (b := mx) (as := [.int (w.2.2.2.2.2.1 (v4 + 1).toNatClampNeg), .int (w.2.2.2.2.2.1 (v4 + 2).toNatClampNeg), .int (w.2.2.2.2.2.1 (v4 + 3).toNatClampNeg), .int (w.2.2.2.2.2.1 (v4 + 4).toNatClampNeg)]) (st := [.int r5]) (rv := (some (.int r11))) (M2 := (I12, L, ab_RR, n, nc, ns)) d_W_law_1345 ce_M_lay v_1944 v_1945 v_1946 (by decide) rfl (Nat.le_of_ble_eq_true rfl) hC (Nat.le_refl _) (Nat.le_refl _) hc hs (fun j h9 => by cases h9) (fun _ _ => rfl) ?_
  show ab_E w (d + 1) mt_W_law 1348 [.ref 34, .ref kx, .ref mx, .ref ox_out, .int v4, .null, .null] [.int r11, .int r5] (I12, L, ab_RR, n, nc, ns) res
  refine ab_icmp_eq (tgt := 1658) d_W_law_1348 (by decide) (fun c13 => ?_) (fun c13 => ?_)
  · have h := h.1 c13
    exact h
  · have h := h.2 c13
    refine ab_iconst (v := 0) d_W_law_1351 rfl ?_
    exact ab_iret (ty := .boolean) d_W_law_1352 rfl rfl h
theorem q_W_law_1353 {w : ab_Wd} {d n nc ns : Nat} {I : Nat → Nat → Int32} {L : Nat → Nat → Int64} {res : ab_Re} (v4 : Int32) (hc : nc ≤ res.2.2.2.2.2.1) (hs : ns ≤ res.2.2.2.2.2.2)
    (h : ∃ (r1 : Int32) (I2 : Nat → Nat → Int32), ab_C w d mt_K_undo [.ref kx] (I, L, ab_RR, n, nc, ns) (.inl (some (.int r1)), (I2, L, ab_RR, n, nc, ns)) ∧ ∃ (r3 : Int32) (I4 : Nat → Nat → Int32), ab_C w d mt_M_undo [.ref mx] (I2, L, ab_RR, n, nc, ns) (.inl (some (.int r3)), (I4, L, ab_RR, n, nc, ns)) ∧ ((r1 = r3 → (ab_E w (d + 1) mt_W_law 1658 [.ref 34, .ref kx, .ref mx, .ref ox_out, .int v4, .null, .null] [] (I4, L, ab_RR, n, nc, ns) res)) ∧ (¬ r1 = r3 → (res = (.inl (some (.int 0)), (I4, L, ab_RR, n, nc, ns)))))) : ab_E w (d + 1) mt_W_law 1353 [.ref 34, .ref kx, .ref mx, .ref ox_out, .int v4, .null, .null] [] (I, L, ab_RR, n, nc, ns) res := by
  refine ab_aload_n (i := 1) d_W_law_1353 rfl rfl ?_
  obtain ⟨r1, I2, hC, h⟩ := h
  refine ab_callV (me2 := mt_K_undo) (b := kx) (as := []) (st := []) (rv := (some (.int r1))) (M2 := (I2, L, ab_RR, n, nc, ns)) d_W_law_1354 ce_K_undo v_641 v_642 v_643 (by decide) rfl (Nat.le_of_ble_eq_true rfl) hC (Nat.le_refl _) (Nat.le_refl _) hc hs (fun j h9 => by cases h9) (fun _ _ => rfl) ?_
  show ab_E w (d + 1) mt_W_law 1357 [.ref 34, .ref kx, .ref mx, .ref ox_out, .int v4, .null, .null] [.int r1] (I2, L, ab_RR, n, nc, ns) res
  refine ab_aload_n (i := 2) d_W_law_1357 rfl rfl ?_
  obtain ⟨r3, I4, hC, h⟩ := h
  refine ab_callV (me2 := mt_M_undo) (b := mx) (as := []) (st := [.int r1]) (rv := (some (.int r3))) (M2 := (I4, L, ab_RR, n, nc, ns)) d_W_law_1358 ce_M_undo v_1948 v_1949 v_1950 (by decide) rfl (Nat.le_of_ble_eq_true rfl) hC (Nat.le_refl _) (Nat.le_refl _) hc hs (fun j h9 => by cases h9) (fun _ _ => rfl) ?_
  show ab_E w (d + 1) mt_W_law 1361 [.ref 34, .ref kx, .ref mx, .ref ox_out, .int v4, .null, .null] [.int r3, .int r1] (I4, L, ab_RR, n, nc, ns) res
  refine ab_icmp_eq (tgt := 1658) d_W_law_1361 (by decide) (fun c5 => ?_) (fun c5 => ?_)
  · have h := h.1 c5
    exact h
  · have h := h.2 c5
    refine ab_iconst (v := 0) d_W_law_1364 rfl ?_
    exact ab_iret (ty := .boolean) d_W_law_1365 rfl rfl h
theorem q_W_law_1366 {w : ab_Wd} {d n nc ns : Nat} {I : Nat → Nat → Int32} {L : Nat → Nat → Int64} {res : ab_Re} (v4 : Int32) (hc : nc ≤ res.2.2.2.2.2.1) (hs : ns ≤ res.2.2.2.2.2.2)
    (h : (vp_in (v4 + 1) w.2.2.2.2.1) ∧ (vp_in (v4 + 2) w.2.2.2.2.1) ∧ (((w.2.2.2.2.2.1 (v4 + 2).toNatClampNeg) = 0 → (ab_E w (d + 1) mt_W_law 1387 [.ref 34, .ref kx, .ref mx, .ref ox_out, .int v4, .null, .null] [.int 0, .int (w.2.2.2.2.2.1 (v4 + 1).toNatClampNeg), .ref kx] (I, L, ab_RR, n, nc, ns) res)) ∧ (¬ (w.2.2.2.2.2.1 (v4 + 2).toNatClampNeg) = 0 → (ab_E w (d + 1) mt_W_law 1387 [.ref 34, .ref kx, .ref mx, .ref ox_out, .int v4, .null, .null] [.int 1, .int (w.2.2.2.2.2.1 (v4 + 1).toNatClampNeg), .ref kx] (I, L, ab_RR, n, nc, ns) res)))) : ab_E w (d + 1) mt_W_law 1366 [.ref 34, .ref kx, .ref mx, .ref ox_out, .int v4, .null, .null] [] (I, L, ab_RR, n, nc, ns) res := by
  refine ab_aload_n (i := 1) d_W_law_1366 rfl rfl ?_
  refine ab_aload_n (i := 0) d_W_law_1367 rfl rfl ?_
  refine ab_iload (i := 4) d_W_law_1368 rfl ?_
  refine ab_iconst (v := 1) d_W_law_1370 rfl ?_
  refine ab_iadd d_W_law_1371 ?_
  have g1 := h.1; have h := h.2
  refine ab_sald d_W_law_1372 g1 ?_
  refine ab_aload_n (i := 0) d_W_law_1373 rfl rfl ?_
  refine ab_iload (i := 4) d_W_law_1374 rfl ?_
  refine ab_iconst (v := 2) d_W_law_1376 rfl ?_
  refine ab_iadd d_W_law_1377 ?_
  have g2 := h.1; have h := h.2
  refine ab_sald d_W_law_1378 g2 ?_
  refine ab_if_eq (tgt := 1386) d_W_law_1379 (by decide) (fun c3 => ?_) (fun c3 => ?_)
  · have h := h.1 c3
    refine ab_iconst (v := 0) d_W_law_1386 rfl ?_
    exact h
  · have h := h.2 c3
    refine ab_iconst (v := 1) d_W_law_1382 rfl ?_
    refine ab_goto (tgt := 1387) d_W_law_1383 (by decide) ?_
    exact h
theorem q_W_law_1387 {w : ab_Wd} {d n nc ns : Nat} {I : Nat → Nat → Int32} {L : Nat → Nat → Int64} {res : ab_Re} (v4 : Int32) (s1 : Int32) (s2 : Int32) (hc : nc ≤ res.2.2.2.2.2.1) (hs : ns ≤ res.2.2.2.2.2.2)
    (h : ∃ (r1 : Int32) (I2 : Nat → Nat → Int32), ab_C w d mt_K_note [.ref kx, .int s1, .int s2] (I, L, ab_RR, n, nc, ns) (.inl (some (.int r1)), (I2, L, ab_RR, n, nc, ns)) ∧ (vp_in (v4 + 1) w.2.2.2.2.1) ∧ (vp_in (v4 + 2) w.2.2.2.2.1) ∧ (((w.2.2.2.2.2.1 (v4 + 2).toNatClampNeg) = 0 → (ab_E w (d + 1) mt_W_law 1411 [.ref 34, .ref kx, .ref mx, .ref ox_out, .int v4, .null, .null] [.int 0, .int (w.2.2.2.2.2.1 (v4 + 1).toNatClampNeg), .ref mx, .int r1] (I2, L, ab_RR, n, nc, ns) res)) ∧ (¬ (w.2.2.2.2.2.1 (v4 + 2).toNatClampNeg) = 0 → (ab_E w (d + 1) mt_W_law 1411 [.ref 34, .ref kx, .ref mx, .ref ox_out, .int v4, .null, .null] [.int 1, .int (w.2.2.2.2.2.1 (v4 + 1).toNatClampNeg), .ref mx, .int r1] (I2, L, ab_RR, n, nc, ns) res)))) : ab_E w (d + 1) mt_W_law 1387 [.ref 34, .ref kx, .ref mx, .ref ox_out, .int v4, .null, .null] [.int s2, .int s1, .ref kx] (I, L, ab_RR, n, nc, ns) res := by
  obtain ⟨r1, I2, hC, h⟩ := h
  refine ab_callV (me2 := mt_K_note) (b := kx) (as := [.int s1, .int s2]) (st := []) (rv := (some (.int r1))) (M2 := (I2, L, ab_RR, n, nc, ns)) d_W_law_1387 ce_K_note v_651 v_652 v_653 (by decide) rfl (Nat.le_of_ble_eq_true rfl) hC (Nat.le_refl _) (Nat.le_refl _) hc hs (fun j h9 => by cases h9) (fun _ _ => rfl) ?_
  show ab_E w (d + 1) mt_W_law 1390 [.ref 34, .ref kx, .ref mx, .ref ox_out, .int v4, .null, .null] [.int r1] (I2, L, ab_RR, n, nc, ns) res
  refine ab_aload_n (i := 2) d_W_law_1390 rfl rfl ?_
  refine ab_aload_n (i := 0) d_W_law_1391 rfl rfl ?_
  refine ab_iload (i := 4) d_W_law_1392 rfl ?_
  refine ab_iconst (v := 1) d_W_law_1394 rfl ?_
  refine ab_iadd d_W_law_1395 ?_
  have g3 := h.1; have h := h.2
  refine ab_sald d_W_law_1396 g3 ?_
  refine ab_aload_n (i := 0) d_W_law_1397 rfl rfl ?_
  refine ab_iload (i := 4) d_W_law_1398 rfl ?_
  refine ab_iconst (v := 2) d_W_law_1400 rfl ?_
  refine ab_iadd d_W_law_1401 ?_
  have g4 := h.1; have h := h.2
  refine ab_sald d_W_law_1402 g4 ?_
  refine ab_if_eq (tgt := 1410) d_W_law_1403 (by decide) (fun c5 => ?_) (fun c5 => ?_)
  · have h := h.1 c5
    refine ab_iconst (v := 0) d_W_law_1410 rfl ?_
    exact h
  · have h := h.2 c5
    refine ab_iconst (v := 1) d_W_law_1406 rfl ?_
    refine ab_goto (tgt := 1411) d_W_law_1407 (by decide) ?_
    exact h
theorem q_W_law_1411 {w : ab_Wd} {d n nc ns : Nat} {I : Nat → Nat → Int32} {L : Nat → Nat → Int64} {res : ab_Re} (v4 : Int32) (s0 : Int32) (s2 : Int32) (s3 : Int32) (hc : nc ≤ res.2.2.2.2.2.1) (hs : ns ≤ res.2.2.2.2.2.2)
    (h : ∃ (r1 : Int32) (I2 : Nat → Nat → Int32), ab_C w d mt_M_note [.ref mx, .int s2, .int s3] (I, L, ab_RR, n, nc, ns) (.inl (some (.int r1)), (I2, L, ab_RR, n, nc, ns)) ∧ ((s0 = r1 → (ab_E w (d + 1) mt_W_law 1658 [.ref 34, .ref kx, .ref mx, .ref ox_out, .int v4, .null, .null] [] (I2, L, ab_RR, n, nc, ns) res)) ∧ (¬ s0 = r1 → (res = (.inl (some (.int 0)), (I2, L, ab_RR, n, nc, ns)))))) : ab_E w (d + 1) mt_W_law 1411 [.ref 34, .ref kx, .ref mx, .ref ox_out, .int v4, .null, .null] [.int s3, .int s2, .ref mx, .int s0] (I, L, ab_RR, n, nc, ns) res := by
  obtain ⟨r1, I2, hC, h⟩ := h
  refine ab_callV (me2 := mt_M_note) (b := mx) (as := [.int s2, .int s3]) (st := [.int s0]) (rv := (some (.int r1))) (M2 := (I2, L, ab_RR, n, nc, ns)) d_W_law_1411 ce_M_note v_1952 v_1953 v_1954 (by decide) rfl (Nat.le_of_ble_eq_true rfl) hC (Nat.le_refl _) (Nat.le_refl _) hc hs (fun j h9 => by cases h9) (fun _ _ => rfl) ?_
  show ab_E w (d + 1) mt_W_law 1414 [.ref 34, .ref kx, .ref mx, .ref ox_out, .int v4, .null, .null] [.int r1, .int s0] (I2, L, ab_RR, n, nc, ns) res
  refine ab_icmp_eq (tgt := 1658) d_W_law_1414 (by decide) (fun c3 => ?_) (fun c3 => ?_)
  · have h := h.1 c3
    exact h
  · have h := h.2 c3
    refine ab_iconst (v := 0) d_W_law_1417 rfl ?_
    exact ab_iret (ty := .boolean) d_W_law_1418 rfl rfl h
theorem q_W_law_1419 {w : ab_Wd} {d n nc ns : Nat} {I : Nat → Nat → Int32} {L : Nat → Nat → Int64} {res : ab_Re} (v4 : Int32) (hc : nc ≤ res.2.2.2.2.2.1) (hs : ns ≤ res.2.2.2.2.2.2)
    (h : (vp_in (v4 + 1) w.2.2.2.2.1) ∧ (vp_in (v4 + 2) w.2.2.2.2.1) ∧ ∃ (r3 : Int32) (I4 : Nat → Nat → Int32) (L5 : Nat → Nat → Int64) (n6 nc7 ns8 : Nat), (ab_CH w d mt_W_fits [.ref kx, .int (w.2.2.2.2.2.1 (v4 + 1).toNatClampNeg), .int (w.2.2.2.2.2.1 (v4 + 2).toNatClampNeg), .ref ox_out] (I, L, ab_RR, n, nc, ns) (.inl (some (.int r3)), (I4, L5, ab_RR, n6, nc7, ns8)) ∧ nc ≤ nc7 ∧ ns ≤ ns8 ∧ nc7 ≤ res.2.2.2.2.2.1 ∧ ns8 ≤ res.2.2.2.2.2.2) ∧ (vp_in (v4 + 1) w.2.2.2.2.1) ∧ (vp_in (v4 + 2) w.2.2.2.2.1) ∧ ∃ (r11 : Int32) (I12 : Nat → Nat → Int32), ab_C w d mt_M_fits [.ref mx, .int (w.2.2.2.2.2.1 (v4 + 1).toNatClampNeg), .int (w.2.2.2.2.2.1 (v4 + 2).toNatClampNeg)] (I4, L5, ab_RR, n, nc7, ns8) (.inl (some (.int r11)), (I12, L5, ab_RR, n, nc7, ns8)) ∧ ∃ (r13 : Int32), ab_C w d mt_M_thrown [.ref mx] (I12, L5, ab_RR, n, nc7, ns8) (.inl (some (.int r13)), (I12, L5, ab_RR, n, nc7, ns8)) ∧ ((r13 = r3 → ((¬ r3 = 0 → (ab_E w (d + 1) mt_W_law 1484 [.ref 34, .ref kx, .ref mx, .ref ox_out, .int v4, .int r3, .int r11] [] (I12, L5, ab_RR, n, nc7, ns8) res)) ∧ (r3 = 0 → (((lg_cmp (L5 ox_out 0) (Int32.toInt64 r11)) = 0 → (ab_E w (d + 1) mt_W_law 1484 [.ref 34, .ref kx, .ref mx, .ref ox_out, .int v4, .int r3, .int r11] [] (I12, L5, ab_RR, n, nc7, ns8) res)) ∧ (¬ (lg_cmp (L5 ox_out 0) (Int32.toInt64 r11)) = 0 → (res = (.inl (some (.int 0)), (I12, L5, ab_RR, n, nc7, ns8)))))))) ∧ (¬ r13 = r3 → (res = (.inl (some (.int 0)), (I12, L5, ab_RR, n, nc7, ns8)))))) : ab_E w (d + 1) mt_W_law 1419 [.ref 34, .ref kx, .ref mx, .ref ox_out, .int v4, .null, .null] [] (I, L, ab_RR, n, nc, ns) res := by
  refine ab_aload_n (i := 1) d_W_law_1419 rfl rfl ?_
  refine ab_aload_n (i := 0) d_W_law_1420 rfl rfl ?_
  refine ab_iload (i := 4) d_W_law_1421 rfl ?_
  refine ab_iconst (v := 1) d_W_law_1423 rfl ?_
  refine ab_iadd d_W_law_1424 ?_
  have g1 := h.1; have h := h.2
  refine ab_sald d_W_law_1425 g1 ?_
  refine ab_aload_n (i := 0) d_W_law_1426 rfl rfl ?_
  refine ab_iload (i := 4) d_W_law_1427 rfl ?_
  refine ab_iconst (v := 2) d_W_law_1429 rfl ?_
  refine ab_iadd d_W_law_1430 ?_
  have g2 := h.1; have h := h.2
  refine ab_sald d_W_law_1431 g2 ?_
  refine ab_aload_n (i := 3) d_W_law_1432 rfl rfl ?_
  obtain ⟨r3, I4, L5, n6, nc7, ns8, ⟨hC, l1, l2, hc, hs⟩, h⟩ := h
  refine ab_callSH (me2 := mt_W_fits) (as := [.ref kx, .int (w.2.2.2.2.2.1 (v4 + 1).toNatClampNeg), .int (w.2.2.2.2.2.1 (v4 + 2).toNatClampNeg), .ref ox_out]) (st := []) (rv := some (.int r3)) (M2 := (I4, L5, ab_RR, n6, nc7, ns8)) d_W_law_1433 v_1291 v_139 ⟨by decide, by decide, (show (parseMethodDescriptor mt_W_fits.1.desc).map (fun d => d.parameters.length) = some 4 from by decide +kernel)⟩ (by decide) v_1289 v_1290 (Nat.le_of_ble_eq_true rfl) hC l1 l2 hc hs (fun j h9 => by cases h9) (fun _ _ => rfl) ?_
  show ab_E w (d + 1) mt_W_law 1436 [.ref 34, .ref kx, .ref mx, .ref ox_out, .int v4, .null, .null] [.int r3] (I4, L5, ab_RR, n, nc7, ns8) res
  refine ab_istore (i := 5) d_W_law_1436 (by decide) (Or.inr rfl) ?_
  refine ab_aload_n (i := 2) d_W_law_1438 rfl rfl ?_
  refine ab_aload_n (i := 0) d_W_law_1439 rfl rfl ?_
  refine ab_iload (i := 4) d_W_law_1440 rfl ?_
  refine ab_iconst (v := 1) d_W_law_1442 rfl ?_
  refine ab_iadd d_W_law_1443 ?_
  have g9 := h.1; have h := h.2
  refine ab_sald d_W_law_1444 g9 ?_
  refine ab_aload_n (i := 0) d_W_law_1445 rfl rfl ?_
  refine ab_iload (i := 4) d_W_law_1446 rfl ?_
  refine ab_iconst (v := 2) d_W_law_1448 rfl ?_
  refine ab_iadd d_W_law_1449 ?_
  have g10 := h.1; have h := h.2
  refine ab_sald d_W_law_1450 g10 ?_
  obtain ⟨r11, I12, hC, h⟩ := h
  refine ab_callV (me2 := mt_M_fits) (b := mx) (as := [.int (w.2.2.2.2.2.1 (v4 + 1).toNatClampNeg), .int (w.2.2.2.2.2.1 (v4 + 2).toNatClampNeg)]) (st := []) (rv := (some (.int r11))) (M2 := (I12, L5, ab_RR, n, nc7, ns8)) d_W_law_1451 ce_M_fits v_1960 v_1961 v_1962 (by decide) rfl (Nat.le_of_ble_eq_true rfl) hC (Nat.le_refl _) (Nat.le_refl _) hc hs (fun j h9 => by cases h9) (fun _ _ => rfl) ?_
  show ab_E w (d + 1) mt_W_law 1454 [.ref 34, .ref kx, .ref mx, .ref ox_out, .int v4, .int r3, .null] [.int r11] (I12, L5, ab_RR, n, nc7, ns8) res
  refine ab_istore (i := 6) d_W_law_1454 (by decide) (Or.inr rfl) ?_
  refine ab_aload_n (i := 2) d_W_law_1456 rfl rfl ?_
  obtain ⟨r13, hC, h⟩ := h
  refine ab_callV (me2 := mt_M_thrown) (b := mx) (as := []) (st := []) (rv := (some (.int r13))) (M2 := (I12, L5, ab_RR, n, nc7, ns8)) d_W_law_1457 ce_M_thrown v_1550 v_1551 v_1552 (by decide) rfl (Nat.le_of_ble_eq_true rfl) hC (Nat.le_refl _) (Nat.le_refl _) hc hs (fun j h9 => by cases h9) (fun _ _ => rfl) ?_
  show ab_E w (d + 1) mt_W_law 1460 [.ref 34, .ref kx, .ref mx, .ref ox_out, .int v4, .int r3, .int r11] [.int r13] (I12, L5, ab_RR, n, nc7, ns8) res
  refine ab_iload (i := 5) d_W_law_1460 rfl ?_
  refine ab_icmp_eq (tgt := 1467) d_W_law_1462 (by decide) (fun c14 => ?_) (fun c14 => ?_)
  · have h := h.1 c14
    refine ab_iload (i := 5) d_W_law_1467 rfl ?_
    refine ab_if_ne (tgt := 1484) d_W_law_1469 (by decide) (fun c15 => ?_) (fun c15 => ?_)
    · have h := h.1 c15
      exact h
    · have h := h.2 c15
      refine ab_aload_n (i := 3) d_W_law_1472 rfl rfl ?_
      refine ab_iconst (v := 0) d_W_law_1473 rfl ?_
      refine ab_lald d_W_law_1474 rfl rfl (by unfold vp_in; decide) ?_
      refine ab_iload (i := 6) d_W_law_1475 rfl ?_
      refine ab_i2l d_W_law_1477 ?_
      refine ab_lcmp d_W_law_1478 ?_
      refine ab_if_eq (tgt := 1484) d_W_law_1479 (by decide) (fun c16 => ?_) (fun c16 => ?_)
      · have h := h.1 c16
        exact h
      · have h := h.2 c16
        refine ab_iconst (v := 0) d_W_law_1482 rfl ?_
        exact ab_iret (ty := .boolean) d_W_law_1483 rfl rfl h
  · have h := h.2 c14
    refine ab_iconst (v := 0) d_W_law_1465 rfl ?_
    exact ab_iret (ty := .boolean) d_W_law_1466 rfl rfl h
theorem q_W_law_1484 {w : ab_Wd} {d n nc ns : Nat} {I : Nat → Nat → Int32} {L : Nat → Nat → Int64} {res : ab_Re} (v4 : Int32) (v5 : Int32) (v6 : Int32) (hc : nc ≤ res.2.2.2.2.2.1) (hs : ns ≤ res.2.2.2.2.2.2)
    (h : ab_E w (d + 1) mt_W_law 1658 [.ref 34, .ref kx, .ref mx, .ref ox_out, .int v4, .null, .null] [] (I, L, ab_RR, n, nc, ns) res) : ab_E w (d + 1) mt_W_law 1484 [.ref 34, .ref kx, .ref mx, .ref ox_out, .int v4, .int v5, .int v6] [] (I, L, ab_RR, n, nc, ns) res := by
  refine ab_goto (tgt := 1658) d_W_law_1484 (by decide) ?_
  refine ab_drop 5 ?_
  refine ab_drop 6 ?_
  exact h
theorem q_W_law_1487 {w : ab_Wd} {d n nc ns : Nat} {I : Nat → Nat → Int32} {L : Nat → Nat → Int64} {res : ab_Re} (v4 : Int32) (hc : nc ≤ res.2.2.2.2.2.1) (hs : ns ≤ res.2.2.2.2.2.2)
    (h : (vp_in (v4 + 1) w.2.2.2.2.1) ∧ ∃ (r2 : Int32) (I3 : Nat → Nat → Int32) (L4 : Nat → Nat → Int64) (n5 nc6 ns7 : Nat), (ab_CH w d mt_W_look [.ref kx, .int (w.2.2.2.2.2.1 (v4 + 1).toNatClampNeg), .ref ox_out] (I, L, ab_RR, n, nc, ns) (.inl (some (.int r2)), (I3, L4, ab_RR, n5, nc6, ns7)) ∧ nc ≤ nc6 ∧ ns ≤ ns7 ∧ nc6 ≤ res.2.2.2.2.2.1 ∧ ns7 ≤ res.2.2.2.2.2.2) ∧ (vp_in (v4 + 1) w.2.2.2.2.1) ∧ ∃ (r9 : Int32) (I10 : Nat → Nat → Int32), ab_C w d mt_M_look [.ref mx, .int (w.2.2.2.2.2.1 (v4 + 1).toNatClampNeg)] (I3, L4, ab_RR, n, nc6, ns7) (.inl (some (.int r9)), (I10, L4, ab_RR, n, nc6, ns7)) ∧ ∃ (r11 : Int32), ab_C w d mt_M_thrown [.ref mx] (I10, L4, ab_RR, n, nc6, ns7) (.inl (some (.int r11)), (I10, L4, ab_RR, n, nc6, ns7)) ∧ ((r11 = r2 → ((¬ r2 = 0 → (ab_E w (d + 1) mt_W_law 1540 [.ref 34, .ref kx, .ref mx, .ref ox_out, .int v4, .int r2, .int r9] [] (I10, L4, ab_RR, n, nc6, ns7) res)) ∧ (r2 = 0 → (((lg_cmp (L4 ox_out 0) (Int32.toInt64 r9)) = 0 → (ab_E w (d + 1) mt_W_law 1540 [.ref 34, .ref kx, .ref mx, .ref ox_out, .int v4, .int r2, .int r9] [] (I10, L4, ab_RR, n, nc6, ns7) res)) ∧ (¬ (lg_cmp (L4 ox_out 0) (Int32.toInt64 r9)) = 0 → (res = (.inl (some (.int 0)), (I10, L4, ab_RR, n, nc6, ns7)))))))) ∧ (¬ r11 = r2 → (res = (.inl (some (.int 0)), (I10, L4, ab_RR, n, nc6, ns7)))))) : ab_E w (d + 1) mt_W_law 1487 [.ref 34, .ref kx, .ref mx, .ref ox_out, .int v4, .null, .null] [] (I, L, ab_RR, n, nc, ns) res := by
  refine ab_aload_n (i := 1) d_W_law_1487 rfl rfl ?_
  refine ab_aload_n (i := 0) d_W_law_1488 rfl rfl ?_
  refine ab_iload (i := 4) d_W_law_1489 rfl ?_
  refine ab_iconst (v := 1) d_W_law_1491 rfl ?_
  refine ab_iadd d_W_law_1492 ?_
  have g1 := h.1; have h := h.2
  refine ab_sald d_W_law_1493 g1 ?_
  refine ab_aload_n (i := 3) d_W_law_1494 rfl rfl ?_
  obtain ⟨r2, I3, L4, n5, nc6, ns7, ⟨hC, l1, l2, hc, hs⟩, h⟩ := h
  refine ab_callSH (me2 := mt_W_look) (as := [.ref kx, .int (w.2.2.2.2.2.1 (v4 + 1).toNatClampNeg), .ref ox_out]) (st := []) (rv := some (.int r2)) (M2 := (I3, L4, ab_RR, n5, nc6, ns7)) d_W_law_1495 v_1334 v_139 ⟨by decide, by decide, (show (parseMethodDescriptor mt_W_look.1.desc).map (fun d => d.parameters.length) = some 3 from by decide +kernel)⟩ (by decide) v_1332 v_1333 (Nat.le_of_ble_eq_true rfl) hC l1 l2 hc hs (fun j h9 => by cases h9) (fun _ _ => rfl) ?_
  show ab_E w (d + 1) mt_W_law 1498 [.ref 34, .ref kx, .ref mx, .ref ox_out, .int v4, .null, .null] [.int r2] (I3, L4, ab_RR, n, nc6, ns7) res
  refine ab_istore (i := 5) d_W_law_1498 (by decide) (Or.inr rfl) ?_
  refine ab_aload_n (i := 2) d_W_law_1500 rfl rfl ?_
  refine ab_aload_n (i := 0) d_W_law_1501 rfl rfl ?_
  refine ab_iload (i := 4) d_W_law_1502 rfl ?_
  refine ab_iconst (v := 1) d_W_law_1504 rfl ?_
  refine ab_iadd d_W_law_1505 ?_
  have g8 := h.1; have h := h.2
  refine ab_sald d_W_law_1506 g8 ?_
  obtain ⟨r9, I10, hC, h⟩ := h
  refine ab_callV (me2 := mt_M_look) (b := mx) (as := [.int (w.2.2.2.2.2.1 (v4 + 1).toNatClampNeg)]) (st := []) (rv := (some (.int r9))) (M2 := (I10, L4, ab_RR, n, nc6, ns7)) d_W_law_1507 ce_M_look v_1972 v_1973 v_1974 (by decide) rfl (Nat.le_of_ble_eq_true rfl) hC (Nat.le_refl _) (Nat.le_refl _) hc hs (fun j h9 => by cases h9) (fun _ _ => rfl) ?_
  show ab_E w (d + 1) mt_W_law 1510 [.ref 34, .ref kx, .ref mx, .ref ox_out, .int v4, .int r2, .null] [.int r9] (I10, L4, ab_RR, n, nc6, ns7) res
  refine ab_istore (i := 6) d_W_law_1510 (by decide) (Or.inr rfl) ?_
  refine ab_aload_n (i := 2) d_W_law_1512 rfl rfl ?_
  obtain ⟨r11, hC, h⟩ := h
  refine ab_callV (me2 := mt_M_thrown) (b := mx) (as := []) (st := []) (rv := (some (.int r11))) (M2 := (I10, L4, ab_RR, n, nc6, ns7)) d_W_law_1513 ce_M_thrown v_1550 v_1551 v_1552 (by decide) rfl (Nat.le_of_ble_eq_true rfl) hC (Nat.le_refl _) (Nat.le_refl _) hc hs (fun j h9 => by cases h9) (fun _ _ => rfl) ?_
  show ab_E w (d + 1) mt_W_law 1516 [.ref 34, .ref kx, .ref mx, .ref ox_out, .int v4, .int r2, .int r9] [.int r11] (I10, L4, ab_RR, n, nc6, ns7) res
  refine ab_iload (i := 5) d_W_law_1516 rfl ?_
  refine ab_icmp_eq (tgt := 1523) d_W_law_1518 (by decide) (fun c12 => ?_) (fun c12 => ?_)
  · have h := h.1 c12
    refine ab_iload (i := 5) d_W_law_1523 rfl ?_
    refine ab_if_ne (tgt := 1540) d_W_law_1525 (by decide) (fun c13 => ?_) (fun c13 => ?_)
    · have h := h.1 c13
      exact h
    · have h := h.2 c13
      refine ab_aload_n (i := 3) d_W_law_1528 rfl rfl ?_
      refine ab_iconst (v := 0) d_W_law_1529 rfl ?_
      refine ab_lald d_W_law_1530 rfl rfl (by unfold vp_in; decide) ?_
      refine ab_iload (i := 6) d_W_law_1531 rfl ?_
      refine ab_i2l d_W_law_1533 ?_
      refine ab_lcmp d_W_law_1534 ?_
      refine ab_if_eq (tgt := 1540) d_W_law_1535 (by decide) (fun c14 => ?_) (fun c14 => ?_)
      · have h := h.1 c14
        exact h
      · have h := h.2 c14
        refine ab_iconst (v := 0) d_W_law_1538 rfl ?_
        exact ab_iret (ty := .boolean) d_W_law_1539 rfl rfl h
  · have h := h.2 c12
    refine ab_iconst (v := 0) d_W_law_1521 rfl ?_
    exact ab_iret (ty := .boolean) d_W_law_1522 rfl rfl h
theorem q_W_law_1540 {w : ab_Wd} {d n nc ns : Nat} {I : Nat → Nat → Int32} {L : Nat → Nat → Int64} {res : ab_Re} (v4 : Int32) (v5 : Int32) (v6 : Int32) (hc : nc ≤ res.2.2.2.2.2.1) (hs : ns ≤ res.2.2.2.2.2.2)
    (h : ab_E w (d + 1) mt_W_law 1658 [.ref 34, .ref kx, .ref mx, .ref ox_out, .int v4, .null, .null] [] (I, L, ab_RR, n, nc, ns) res) : ab_E w (d + 1) mt_W_law 1540 [.ref 34, .ref kx, .ref mx, .ref ox_out, .int v4, .int v5, .int v6] [] (I, L, ab_RR, n, nc, ns) res := by
  refine ab_goto (tgt := 1658) d_W_law_1540 (by decide) ?_
  refine ab_drop 5 ?_
  refine ab_drop 6 ?_
  exact h
theorem q_W_law_1543 {w : ab_Wd} {d n nc ns : Nat} {I : Nat → Nat → Int32} {L : Nat → Nat → Int64} {res : ab_Re} (v4 : Int32) (hc : nc ≤ res.2.2.2.2.2.1) (hs : ns ≤ res.2.2.2.2.2.2)
    (h : ∃ (I2 : Nat → Nat → Int32), ab_C w d mt_K_forget [.ref kx] (I, L, ab_RR, n, nc, ns) (.inl none, (I2, L, ab_RR, n, nc, ns)) ∧ ∃ (I4 : Nat → Nat → Int32), ab_C w d mt_M_forget [.ref mx] (I2, L, ab_RR, n, nc, ns) (.inl none, (I4, L, ab_RR, n, nc, ns)) ∧ ab_E w (d + 1) mt_W_law 1658 [.ref 34, .ref kx, .ref mx, .ref ox_out, .int v4, .null, .null] [] (I4, L, ab_RR, n, nc, ns) res) : ab_E w (d + 1) mt_W_law 1543 [.ref 34, .ref kx, .ref mx, .ref ox_out, .int v4, .null, .null] [] (I, L, ab_RR, n, nc, ns) res := by
  refine ab_aload_n (i := 1) d_W_law_1543 rfl rfl ?_
  obtain ⟨I2, hC, h⟩ := h
  refine ab_callV (me2 := mt_K_forget) (b := kx) (as := []) (st := []) (rv := none) (M2 := (I2, L, ab_RR, n, nc, ns)) d_W_law_1544 ce_K_forget v_655 v_656 v_657 (by decide) rfl (Nat.le_of_ble_eq_true rfl) hC (Nat.le_refl _) (Nat.le_refl _) hc hs (fun j h9 => by cases h9) (fun _ _ => rfl) ?_
  show ab_E w (d + 1) mt_W_law 1547 [.ref 34, .ref kx, .ref mx, .ref ox_out, .int v4, .null, .null] [] (I2, L, ab_RR, n, nc, ns) res
  refine ab_aload_n (i := 2) d_W_law_1547 rfl rfl ?_
  obtain ⟨I4, hC, h⟩ := h
  refine ab_callV (me2 := mt_M_forget) (b := mx) (as := []) (st := []) (rv := none) (M2 := (I4, L, ab_RR, n, nc, ns)) d_W_law_1548 ce_M_forget v_1956 v_1957 v_1958 (by decide) rfl (Nat.le_of_ble_eq_true rfl) hC (Nat.le_refl _) (Nat.le_refl _) hc hs (fun j h9 => by cases h9) (fun _ _ => rfl) ?_
  show ab_E w (d + 1) mt_W_law 1551 [.ref 34, .ref kx, .ref mx, .ref ox_out, .int v4, .null, .null] [] (I4, L, ab_RR, n, nc, ns) res
  refine ab_goto (tgt := 1658) d_W_law_1551 (by decide) ?_
  exact h
theorem q_W_law_1554 {w : ab_Wd} {d n nc ns : Nat} {I : Nat → Nat → Int32} {L : Nat → Nat → Int64} {res : ab_Re} (v4 : Int32) (hc : nc ≤ res.2.2.2.2.2.1) (hs : ns ≤ res.2.2.2.2.2.2)
    (h : (vp_in (v4 + 1) w.2.2.2.2.1) ∧ (vp_in (v4 + 2) w.2.2.2.2.1) ∧ (vp_in (v4 + 3) w.2.2.2.2.1) ∧ ∃ (r4 : Int32) (I5 : Nat → Nat → Int32) (L6 : Nat → Nat → Int64) (n7 nc8 ns9 : Nat), (ab_CH w d mt_W_years [.ref kx, .int (w.2.2.2.2.2.1 (v4 + 1).toNatClampNeg), .int (w.2.2.2.2.2.1 (v4 + 2).toNatClampNeg), .int (w.2.2.2.2.2.1 (v4 + 3).toNatClampNeg), .ref ox_out] (I, L, ab_RR, n, nc, ns) (.inl (some (.int r4)), (I5, L6, ab_RR, n7, nc8, ns9)) ∧ nc ≤ nc8 ∧ ns ≤ ns9 ∧ nc8 ≤ res.2.2.2.2.2.1 ∧ ns9 ≤ res.2.2.2.2.2.2) ∧ (vp_in (v4 + 1) w.2.2.2.2.1) ∧ (vp_in (v4 + 2) w.2.2.2.2.1) ∧ (vp_in (v4 + 3) w.2.2.2.2.1) ∧ ∃ (r13 : Int32) (I14 : Nat → Nat → Int32), ab_C w d mt_M_years [.ref mx, .int (w.2.2.2.2.2.1 (v4 + 1).toNatClampNeg), .int (w.2.2.2.2.2.1 (v4 + 2).toNatClampNeg), .int (w.2.2.2.2.2.1 (v4 + 3).toNatClampNeg)] (I5, L6, ab_RR, n, nc8, ns9) (.inl (some (.int r13)), (I14, L6, ab_RR, n, nc8, ns9)) ∧ ∃ (r15 : Int32), ab_C w d mt_M_thrown [.ref mx] (I14, L6, ab_RR, n, nc8, ns9) (.inl (some (.int r15)), (I14, L6, ab_RR, n, nc8, ns9)) ∧ ((r15 = r4 → ((¬ r4 = 0 → (ab_E w (d + 1) mt_W_law 1631 [.ref 34, .ref kx, .ref mx, .ref ox_out, .int v4, .int r4, .int r13] [] (I14, L6, ab_RR, n, nc8, ns9) res)) ∧ (r4 = 0 → (((lg_cmp (L6 ox_out 0) (Int32.toInt64 r13)) = 0 → (ab_E w (d + 1) mt_W_law 1631 [.ref 34, .ref kx, .ref mx, .ref ox_out, .int v4, .int r4, .int r13] [] (I14, L6, ab_RR, n, nc8, ns9) res)) ∧ (¬ (lg_cmp (L6 ox_out 0) (Int32.toInt64 r13)) = 0 → (res = (.inl (some (.int 0)), (I14, L6, ab_RR, n, nc8, ns9)))))))) ∧ (¬ r15 = r4 → (res = (.inl (some (.int 0)), (I14, L6, ab_RR, n, nc8, ns9)))))) : ab_E w (d + 1) mt_W_law 1554 [.ref 34, .ref kx, .ref mx, .ref ox_out, .int v4, .null, .null] [] (I, L, ab_RR, n, nc, ns) res := by
  refine ab_aload_n (i := 1) d_W_law_1554 rfl rfl ?_
  refine ab_aload_n (i := 0) d_W_law_1555 rfl rfl ?_
  refine ab_iload (i := 4) d_W_law_1556 rfl ?_
  refine ab_iconst (v := 1) d_W_law_1558 rfl ?_
  refine ab_iadd d_W_law_1559 ?_
  have g1 := h.1; have h := h.2
  refine ab_sald d_W_law_1560 g1 ?_
  refine ab_aload_n (i := 0) d_W_law_1561 rfl rfl ?_
  refine ab_iload (i := 4) d_W_law_1562 rfl ?_
  refine ab_iconst (v := 2) d_W_law_1564 rfl ?_
  refine ab_iadd d_W_law_1565 ?_
  have g2 := h.1; have h := h.2
  refine ab_sald d_W_law_1566 g2 ?_
  refine ab_aload_n (i := 0) d_W_law_1567 rfl rfl ?_
  refine ab_iload (i := 4) d_W_law_1568 rfl ?_
  refine ab_iconst (v := 3) d_W_law_1570 rfl ?_
  refine ab_iadd d_W_law_1571 ?_
  have g3 := h.1; have h := h.2
  refine ab_sald d_W_law_1572 g3 ?_
  refine ab_aload_n (i := 3) d_W_law_1573 rfl rfl ?_
  obtain ⟨r4, I5, L6, n7, nc8, ns9, ⟨hC, l1, l2, hc, hs⟩, h⟩ := h
  refine ab_callSH (me2 := mt_W_years) (as := [.ref kx, .int (w.2.2.2.2.2.1 (v4 + 1).toNatClampNeg), .int (w.2.2.2.2.2.1 (v4 + 2).toNatClampNeg), .int (w.2.2.2.2.2.1 (v4 + 3).toNatClampNeg), .ref ox_out]) (st := []) (rv := some (.int r4)) (M2 := (I5, L6, ab_RR, n7, nc8, ns9)) d_W_law_1574 v_1341 v_139 ⟨by decide, by decide, (show (parseMethodDescriptor mt_W_years.1.desc).map (fun d => d.parameters.length) = some 5 from by decide +kernel)⟩ (by decide) v_1339 v_1340 (Nat.le_of_ble_eq_true rfl) hC l1 l2 hc hs (fun j h9 => by cases h9) (fun _ _ => rfl) ?_
  show ab_E w (d + 1) mt_W_law 1577 [.ref 34, .ref kx, .ref mx, .ref ox_out, .int v4, .null, .null] [.int r4] (I5, L6, ab_RR, n, nc8, ns9) res
  refine ab_istore (i := 5) d_W_law_1577 (by decide) (Or.inr rfl) ?_
  refine ab_aload_n (i := 2) d_W_law_1579 rfl rfl ?_
  refine ab_aload_n (i := 0) d_W_law_1580 rfl rfl ?_
  refine ab_iload (i := 4) d_W_law_1581 rfl ?_
  refine ab_iconst (v := 1) d_W_law_1583 rfl ?_
  refine ab_iadd d_W_law_1584 ?_
  have g10 := h.1; have h := h.2
  refine ab_sald d_W_law_1585 g10 ?_
  refine ab_aload_n (i := 0) d_W_law_1586 rfl rfl ?_
  refine ab_iload (i := 4) d_W_law_1587 rfl ?_
  refine ab_iconst (v := 2) d_W_law_1589 rfl ?_
  refine ab_iadd d_W_law_1590 ?_
  have g11 := h.1; have h := h.2
  refine ab_sald d_W_law_1591 g11 ?_
  refine ab_aload_n (i := 0) d_W_law_1592 rfl rfl ?_
  refine ab_iload (i := 4) d_W_law_1593 rfl ?_
  refine ab_iconst (v := 3) d_W_law_1595 rfl ?_
  refine ab_iadd d_W_law_1596 ?_
  have g12 := h.1; have h := h.2
  refine ab_sald d_W_law_1597 g12 ?_
  obtain ⟨r13, I14, hC, h⟩ := h
  refine ab_callV (me2 := mt_M_years) (b := mx) (as := [.int (w.2.2.2.2.2.1 (v4 + 1).toNatClampNeg), .int (w.2.2.2.2.2.1 (v4 + 2).toNatClampNeg), .int (w.2.2.2.2.2.1 (v4 + 3).toNatClampNeg)]) (st := []) (rv := (some (.int r13))) (M2 := (I14, L6, ab_RR, n, nc8, ns9)) d_W_law_1598 ce_M_years v_1976 v_1977 v_1978 (by decide) rfl (Nat.le_of_ble_eq_true rfl) hC (Nat.le_refl _) (Nat.le_refl _) hc hs (fun j h9 => by cases h9) (fun _ _ => rfl) ?_
  show ab_E w (d + 1) mt_W_law 1601 [.ref 34, .ref kx, .ref mx, .ref ox_out, .int v4, .int r4, .null] [.int r13] (I14, L6, ab_RR, n, nc8, ns9) res
  refine ab_istore (i := 6) d_W_law_1601 (by decide) (Or.inr rfl) ?_
  refine ab_aload_n (i := 2) d_W_law_1603 rfl rfl ?_
  obtain ⟨r15, hC, h⟩ := h
  refine ab_callV (me2 := mt_M_thrown) (b := mx) (as := []) (st := []) (rv := (some (.int r15))) (M2 := (I14, L6, ab_RR, n, nc8, ns9)) d_W_law_1604 ce_M_thrown v_1550 v_1551 v_1552 (by decide) rfl (Nat.le_of_ble_eq_true rfl) hC (Nat.le_refl _) (Nat.le_refl _) hc hs (fun j h9 => by cases h9) (fun _ _ => rfl) ?_
  show ab_E w (d + 1) mt_W_law 1607 [.ref 34, .ref kx, .ref mx, .ref ox_out, .int v4, .int r4, .int r13] [.int r15] (I14, L6, ab_RR, n, nc8, ns9) res
  refine ab_iload (i := 5) d_W_law_1607 rfl ?_
  refine ab_icmp_eq (tgt := 1614) d_W_law_1609 (by decide) (fun c16 => ?_) (fun c16 => ?_)
  · have h := h.1 c16
    refine ab_iload (i := 5) d_W_law_1614 rfl ?_
    refine ab_if_ne (tgt := 1631) d_W_law_1616 (by decide) (fun c17 => ?_) (fun c17 => ?_)
    · have h := h.1 c17
      exact h
    · have h := h.2 c17
      refine ab_aload_n (i := 3) d_W_law_1619 rfl rfl ?_
      refine ab_iconst (v := 0) d_W_law_1620 rfl ?_
      refine ab_lald d_W_law_1621 rfl rfl (by unfold vp_in; decide) ?_
      refine ab_iload (i := 6) d_W_law_1622 rfl ?_
      refine ab_i2l d_W_law_1624 ?_
      refine ab_lcmp d_W_law_1625 ?_
      refine ab_if_eq (tgt := 1631) d_W_law_1626 (by decide) (fun c18 => ?_) (fun c18 => ?_)
      · have h := h.1 c18
        exact h
      · have h := h.2 c18
        refine ab_iconst (v := 0) d_W_law_1629 rfl ?_
        exact ab_iret (ty := .boolean) d_W_law_1630 rfl rfl h
  · have h := h.2 c16
    refine ab_iconst (v := 0) d_W_law_1612 rfl ?_
    exact ab_iret (ty := .boolean) d_W_law_1613 rfl rfl h
theorem q_W_law_1631 {w : ab_Wd} {d n nc ns : Nat} {I : Nat → Nat → Int32} {L : Nat → Nat → Int64} {res : ab_Re} (v4 : Int32) (v5 : Int32) (v6 : Int32) (hc : nc ≤ res.2.2.2.2.2.1) (hs : ns ≤ res.2.2.2.2.2.2)
    (h : ab_E w (d + 1) mt_W_law 1658 [.ref 34, .ref kx, .ref mx, .ref ox_out, .int v4, .null, .null] [] (I, L, ab_RR, n, nc, ns) res) : ab_E w (d + 1) mt_W_law 1631 [.ref 34, .ref kx, .ref mx, .ref ox_out, .int v4, .int v5, .int v6] [] (I, L, ab_RR, n, nc, ns) res := by
  refine ab_goto (tgt := 1658) d_W_law_1631 (by decide) ?_
  refine ab_drop 5 ?_
  refine ab_drop 6 ?_
  exact h
theorem q_W_law_1634 {w : ab_Wd} {d n nc ns : Nat} {I : Nat → Nat → Int32} {L : Nat → Nat → Int64} {res : ab_Re} (v4 : Int32) (hc : nc ≤ res.2.2.2.2.2.1) (hs : ns ≤ res.2.2.2.2.2.2)
    (h : ∃ (I2 : Nat → Nat → Int32), ab_C w d mt_K_image [.ref kx] (I, L, ab_RR, n, nc, ns) (.inl none, (I2, L, ab_RR, n, nc, ns)) ∧ ∃ (I4 : Nat → Nat → Int32), ab_C w d mt_M_image [.ref mx] (I2, L, ab_RR, n, nc, ns) (.inl none, (I4, L, ab_RR, n, nc, ns)) ∧ ab_E w (d + 1) mt_W_law 1658 [.ref 34, .ref kx, .ref mx, .ref ox_out, .int v4, .null, .null] [] (I4, L, ab_RR, n, nc, ns) res) : ab_E w (d + 1) mt_W_law 1634 [.ref 34, .ref kx, .ref mx, .ref ox_out, .int v4, .null, .null] [] (I, L, ab_RR, n, nc, ns) res := by
  refine ab_aload_n (i := 1) d_W_law_1634 rfl rfl ?_
  obtain ⟨I2, hC, h⟩ := h
  refine ab_callV (me2 := mt_K_image) (b := kx) (as := []) (st := []) (rv := none) (M2 := (I2, L, ab_RR, n, nc, ns)) d_W_law_1635 ce_K_image v_663 v_664 v_665 (by decide) rfl (Nat.le_of_ble_eq_true rfl) hC (Nat.le_refl _) (Nat.le_refl _) hc hs (fun j h9 => by cases h9) (fun _ _ => rfl) ?_
  show ab_E w (d + 1) mt_W_law 1638 [.ref 34, .ref kx, .ref mx, .ref ox_out, .int v4, .null, .null] [] (I2, L, ab_RR, n, nc, ns) res
  refine ab_aload_n (i := 2) d_W_law_1638 rfl rfl ?_
  obtain ⟨I4, hC, h⟩ := h
  refine ab_callV (me2 := mt_M_image) (b := mx) (as := []) (st := []) (rv := none) (M2 := (I4, L, ab_RR, n, nc, ns)) d_W_law_1639 ce_M_image v_1989 v_1990 v_1991 (by decide) rfl (Nat.le_of_ble_eq_true rfl) hC (Nat.le_refl _) (Nat.le_refl _) hc hs (fun j h9 => by cases h9) (fun _ _ => rfl) ?_
  show ab_E w (d + 1) mt_W_law 1642 [.ref 34, .ref kx, .ref mx, .ref ox_out, .int v4, .null, .null] [] (I4, L, ab_RR, n, nc, ns) res
  refine ab_goto (tgt := 1658) d_W_law_1642 (by decide) ?_
  exact h
theorem q_W_law_1645 {w : ab_Wd} {d n nc ns : Nat} {I : Nat → Nat → Int32} {L : Nat → Nat → Int64} {res : ab_Re} (v4 : Int32) (hc : nc ≤ res.2.2.2.2.2.1) (hs : ns ≤ res.2.2.2.2.2.2)
    (h : ∃ (r1 : Int32) (I2 : Nat → Nat → Int32), ab_C w d mt_K_restore [.ref kx] (I, L, ab_RR, n, nc, ns) (.inl (some (.int r1)), (I2, L, ab_RR, n, nc, ns)) ∧ ∃ (r3 : Int32) (I4 : Nat → Nat → Int32), ab_C w d mt_M_restore [.ref mx] (I2, L, ab_RR, n, nc, ns) (.inl (some (.int r3)), (I4, L, ab_RR, n, nc, ns)) ∧ ((r1 = r3 → (ab_E w (d + 1) mt_W_law 1658 [.ref 34, .ref kx, .ref mx, .ref ox_out, .int v4, .null, .null] [] (I4, L, ab_RR, n, nc, ns) res)) ∧ (¬ r1 = r3 → (res = (.inl (some (.int 0)), (I4, L, ab_RR, n, nc, ns)))))) : ab_E w (d + 1) mt_W_law 1645 [.ref 34, .ref kx, .ref mx, .ref ox_out, .int v4, .null, .null] [] (I, L, ab_RR, n, nc, ns) res := by
  refine ab_aload_n (i := 1) d_W_law_1645 rfl rfl ?_
  obtain ⟨r1, I2, hC, h⟩ := h
  refine ab_callV (me2 := mt_K_restore) (b := kx) (as := []) (st := []) (rv := (some (.int r1))) (M2 := (I2, L, ab_RR, n, nc, ns)) d_W_law_1646 ce_K_restore v_686 v_687 v_688 (by decide) rfl (Nat.le_of_ble_eq_true rfl) hC (Nat.le_refl _) (Nat.le_refl _) hc hs (fun j h9 => by cases h9) (fun _ _ => rfl) ?_
  show ab_E w (d + 1) mt_W_law 1649 [.ref 34, .ref kx, .ref mx, .ref ox_out, .int v4, .null, .null] [.int r1] (I2, L, ab_RR, n, nc, ns) res
  refine ab_aload_n (i := 2) d_W_law_1649 rfl rfl ?_
  obtain ⟨r3, I4, hC, h⟩ := h
  refine ab_callV (me2 := mt_M_restore) (b := mx) (as := []) (st := [.int r1]) (rv := (some (.int r3))) (M2 := (I4, L, ab_RR, n, nc, ns)) d_W_law_1650 ce_M_restore v_1993 v_1994 v_1995 (by decide) rfl (Nat.le_of_ble_eq_true rfl) hC (Nat.le_refl _) (Nat.le_refl _) hc hs (fun j h9 => by cases h9) (fun _ _ => rfl) ?_
  show ab_E w (d + 1) mt_W_law 1653 [.ref 34, .ref kx, .ref mx, .ref ox_out, .int v4, .null, .null] [.int r3, .int r1] (I4, L, ab_RR, n, nc, ns) res
  refine ab_icmp_eq (tgt := 1658) d_W_law_1653 (by decide) (fun c5 => ?_) (fun c5 => ?_)
  · have h := h.1 c5
    exact h
  · have h := h.2 c5
    refine ab_iconst (v := 0) d_W_law_1656 rfl ?_
    exact ab_iret (ty := .boolean) d_W_law_1657 rfl rfl h
theorem q_W_law_1658 {w : ab_Wd} {d n nc ns : Nat} {I : Nat → Nat → Int32} {L : Nat → Nat → Int64} {res : ab_Re} (v4 : Int32) (hc : nc ≤ res.2.2.2.2.2.1) (hs : ns ≤ res.2.2.2.2.2.2)
    (h : ab_E w (d + 1) mt_W_law 23 [.ref 34, .ref kx, .ref mx, .ref ox_out, .int (v4 + 6), .null, .null] [] (I, L, ab_RR, n, nc, ns) res) : ab_E w (d + 1) mt_W_law 1658 [.ref 34, .ref kx, .ref mx, .ref ox_out, .int v4, .null, .null] [] (I, L, ab_RR, n, nc, ns) res := by
  refine ab_iinc (i := 4) (v := (v4 + 6)) d_W_law_1658 rfl rfl (by decide) (Or.inr rfl) ?_
  refine ab_goto (tgt := 23) d_W_law_1661 (by decide) ?_
  exact h
