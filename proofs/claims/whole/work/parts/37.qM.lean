theorem d_M_tellWay_0 : decode (ab_bc mt_M_tellWay) 0 = .ok (.iconst 0, 1) := by decide +kernel
theorem d_M_tellWay_1 : decode (ab_bc mt_M_tellWay) 1 = .ok (.istore 4, 2) := by decide +kernel
theorem d_M_tellWay_3 : decode (ab_bc mt_M_tellWay) 3 = .ok (.iload 4, 2) := by decide +kernel
theorem d_M_tellWay_5 : decode (ab_bc mt_M_tellWay) 5 = .ok (.aload_n 0, 1) := by decide +kernel
theorem d_M_tellWay_6 : decode (ab_bc mt_M_tellWay) 6 = .ok (.getfield 21, 3) := by decide +kernel
theorem d_M_tellWay_9 : decode (ab_bc mt_M_tellWay) 9 = .ok (.if_icmp .ge 28, 3) := by decide +kernel
theorem d_M_tellWay_12 : decode (ab_bc mt_M_tellWay) 12 = .ok (.aload_n 0, 1) := by decide +kernel
theorem d_M_tellWay_13 : decode (ab_bc mt_M_tellWay) 13 = .ok (.getfield 49, 3) := by decide +kernel
theorem d_M_tellWay_16 : decode (ab_bc mt_M_tellWay) 16 = .ok (.iload 4, 2) := by decide +kernel
theorem d_M_tellWay_18 : decode (ab_bc mt_M_tellWay) 18 = .ok (.iload 4, 2) := by decide +kernel
theorem d_M_tellWay_20 : decode (ab_bc mt_M_tellWay) 20 = .ok (.iload_n 3, 1) := by decide +kernel
theorem d_M_tellWay_21 : decode (ab_bc mt_M_tellWay) 21 = .ok (.if_icmp .ne 8, 3) := by decide +kernel
theorem d_M_tellWay_24 : decode (ab_bc mt_M_tellWay) 24 = .ok (.bipush 24, 2) := by decide +kernel
theorem d_M_tellWay_26 : decode (ab_bc mt_M_tellWay) 26 = .ok (.goto 4, 3) := by decide +kernel
theorem d_M_tellWay_29 : decode (ab_bc mt_M_tellWay) 29 = .ok (.iconst (-1), 1) := by decide +kernel
theorem d_M_tellWay_30 : decode (ab_bc mt_M_tellWay) 30 = .ok (.iastore, 1) := by decide +kernel
theorem d_M_tellWay_31 : decode (ab_bc mt_M_tellWay) 31 = .ok (.iinc 4 1, 3) := by decide +kernel
theorem d_M_tellWay_34 : decode (ab_bc mt_M_tellWay) 34 = .ok (.goto (-31), 3) := by decide +kernel
theorem d_M_tellWay_37 : decode (ab_bc mt_M_tellWay) 37 = .ok (.iconst 1, 1) := by decide +kernel
theorem d_M_tellWay_38 : decode (ab_bc mt_M_tellWay) 38 = .ok (.istore 4, 2) := by decide +kernel
theorem d_M_tellWay_40 : decode (ab_bc mt_M_tellWay) 40 = .ok (.aload_n 0, 1) := by decide +kernel
theorem d_M_tellWay_41 : decode (ab_bc mt_M_tellWay) 41 = .ok (.getfield 52, 3) := by decide +kernel
theorem d_M_tellWay_44 : decode (ab_bc mt_M_tellWay) 44 = .ok (.iconst 0, 1) := by decide +kernel
theorem d_M_tellWay_45 : decode (ab_bc mt_M_tellWay) 45 = .ok (.iload_n 3, 1) := by decide +kernel
theorem d_M_tellWay_46 : decode (ab_bc mt_M_tellWay) 46 = .ok (.iastore, 1) := by decide +kernel
theorem d_M_tellWay_47 : decode (ab_bc mt_M_tellWay) 47 = .ok (.iconst 0, 1) := by decide +kernel
theorem d_M_tellWay_48 : decode (ab_bc mt_M_tellWay) 48 = .ok (.istore 5, 2) := by decide +kernel
theorem d_M_tellWay_50 : decode (ab_bc mt_M_tellWay) 50 = .ok (.iload 5, 2) := by decide +kernel
theorem d_M_tellWay_52 : decode (ab_bc mt_M_tellWay) 52 = .ok (.iload 4, 2) := by decide +kernel
theorem d_M_tellWay_54 : decode (ab_bc mt_M_tellWay) 54 = .ok (.if_icmp .ge 96, 3) := by decide +kernel
theorem d_M_tellWay_57 : decode (ab_bc mt_M_tellWay) 57 = .ok (.iconst 0, 1) := by decide +kernel
theorem d_M_tellWay_58 : decode (ab_bc mt_M_tellWay) 58 = .ok (.istore 6, 2) := by decide +kernel
theorem d_M_tellWay_60 : decode (ab_bc mt_M_tellWay) 60 = .ok (.iload 6, 2) := by decide +kernel
theorem d_M_tellWay_62 : decode (ab_bc mt_M_tellWay) 62 = .ok (.aload_n 0, 1) := by decide +kernel
theorem d_M_tellWay_63 : decode (ab_bc mt_M_tellWay) 63 = .ok (.invokevirtual 234, 3) := by decide +kernel
theorem d_M_tellWay_66 : decode (ab_bc mt_M_tellWay) 66 = .ok (.if_icmp .ge 78, 3) := by decide +kernel
theorem d_M_tellWay_69 : decode (ab_bc mt_M_tellWay) 69 = .ok (.iload_n 1, 1) := by decide +kernel
theorem d_M_tellWay_70 : decode (ab_bc mt_M_tellWay) 70 = .ok (.iload 6, 2) := by decide +kernel
theorem d_M_tellWay_72 : decode (ab_bc mt_M_tellWay) 72 = .ok (.invokestatic 237, 3) := by decide +kernel
theorem d_M_tellWay_75 : decode (ab_bc mt_M_tellWay) 75 = .ok (.ifCond .eq 19, 3) := by decide +kernel
theorem d_M_tellWay_78 : decode (ab_bc mt_M_tellWay) 78 = .ok (.aload_n 0, 1) := by decide +kernel
theorem d_M_tellWay_79 : decode (ab_bc mt_M_tellWay) 79 = .ok (.iload 6, 2) := by decide +kernel
theorem d_M_tellWay_81 : decode (ab_bc mt_M_tellWay) 81 = .ok (.aload_n 0, 1) := by decide +kernel
theorem d_M_tellWay_82 : decode (ab_bc mt_M_tellWay) 82 = .ok (.getfield 52, 3) := by decide +kernel
theorem d_M_tellWay_85 : decode (ab_bc mt_M_tellWay) 85 = .ok (.iload 5, 2) := by decide +kernel
theorem d_M_tellWay_87 : decode (ab_bc mt_M_tellWay) 87 = .ok (.iaload, 1) := by decide +kernel
theorem d_M_tellWay_88 : decode (ab_bc mt_M_tellWay) 88 = .ok (.invokevirtual 269, 3) := by decide +kernel
theorem d_M_tellWay_91 : decode (ab_bc mt_M_tellWay) 91 = .ok (.goto 4, 3) := by decide +kernel
theorem d_M_tellWay_94 : decode (ab_bc mt_M_tellWay) 94 = .ok (.iconst (-1), 1) := by decide +kernel
theorem d_M_tellWay_95 : decode (ab_bc mt_M_tellWay) 95 = .ok (.istore 7, 2) := by decide +kernel
theorem d_M_tellWay_97 : decode (ab_bc mt_M_tellWay) 97 = .ok (.iload 7, 2) := by decide +kernel
theorem d_M_tellWay_99 : decode (ab_bc mt_M_tellWay) 99 = .ok (.iconst (-1), 1) := by decide +kernel
theorem d_M_tellWay_100 : decode (ab_bc mt_M_tellWay) 100 = .ok (.if_icmp .eq 38, 3) := by decide +kernel
theorem d_M_tellWay_103 : decode (ab_bc mt_M_tellWay) 103 = .ok (.aload_n 0, 1) := by decide +kernel
theorem d_M_tellWay_104 : decode (ab_bc mt_M_tellWay) 104 = .ok (.getfield 49, 3) := by decide +kernel
theorem d_M_tellWay_107 : decode (ab_bc mt_M_tellWay) 107 = .ok (.iload 7, 2) := by decide +kernel
theorem d_M_tellWay_109 : decode (ab_bc mt_M_tellWay) 109 = .ok (.iaload, 1) := by decide +kernel
theorem d_M_tellWay_110 : decode (ab_bc mt_M_tellWay) 110 = .ok (.iconst (-1), 1) := by decide +kernel
theorem d_M_tellWay_111 : decode (ab_bc mt_M_tellWay) 111 = .ok (.if_icmp .eq 6, 3) := by decide +kernel
theorem d_M_tellWay_114 : decode (ab_bc mt_M_tellWay) 114 = .ok (.goto 24, 3) := by decide +kernel
theorem d_M_tellWay_117 : decode (ab_bc mt_M_tellWay) 117 = .ok (.aload_n 0, 1) := by decide +kernel
theorem d_M_tellWay_118 : decode (ab_bc mt_M_tellWay) 118 = .ok (.getfield 49, 3) := by decide +kernel
theorem d_M_tellWay_121 : decode (ab_bc mt_M_tellWay) 121 = .ok (.iload 7, 2) := by decide +kernel
theorem d_M_tellWay_123 : decode (ab_bc mt_M_tellWay) 123 = .ok (.iload 6, 2) := by decide +kernel
theorem d_M_tellWay_125 : decode (ab_bc mt_M_tellWay) 125 = .ok (.iastore, 1) := by decide +kernel
theorem d_M_tellWay_126 : decode (ab_bc mt_M_tellWay) 126 = .ok (.aload_n 0, 1) := by decide +kernel
theorem d_M_tellWay_127 : decode (ab_bc mt_M_tellWay) 127 = .ok (.getfield 52, 3) := by decide +kernel
theorem d_M_tellWay_130 : decode (ab_bc mt_M_tellWay) 130 = .ok (.iload 4, 2) := by decide +kernel
theorem d_M_tellWay_132 : decode (ab_bc mt_M_tellWay) 132 = .ok (.iload 7, 2) := by decide +kernel
theorem d_M_tellWay_134 : decode (ab_bc mt_M_tellWay) 134 = .ok (.iastore, 1) := by decide +kernel
theorem d_M_tellWay_135 : decode (ab_bc mt_M_tellWay) 135 = .ok (.iinc 4 1, 3) := by decide +kernel
theorem d_M_tellWay_138 : decode (ab_bc mt_M_tellWay) 138 = .ok (.iinc 6 1, 3) := by decide +kernel
theorem d_M_tellWay_141 : decode (ab_bc mt_M_tellWay) 141 = .ok (.goto (-81), 3) := by decide +kernel
theorem d_M_tellWay_144 : decode (ab_bc mt_M_tellWay) 144 = .ok (.iinc 5 1, 3) := by decide +kernel
theorem d_M_tellWay_147 : decode (ab_bc mt_M_tellWay) 147 = .ok (.goto (-97), 3) := by decide +kernel
theorem d_M_tellWay_150 : decode (ab_bc mt_M_tellWay) 150 = .ok (.aload_n 0, 1) := by decide +kernel
theorem d_M_tellWay_151 : decode (ab_bc mt_M_tellWay) 151 = .ok (.iconst 0, 1) := by decide +kernel
theorem d_M_tellWay_152 : decode (ab_bc mt_M_tellWay) 152 = .ok (.putfield 272, 3) := by decide +kernel
theorem d_M_tellWay_155 : decode (ab_bc mt_M_tellWay) 155 = .ok (.aload_n 0, 1) := by decide +kernel
theorem d_M_tellWay_156 : decode (ab_bc mt_M_tellWay) 156 = .ok (.getfield 49, 3) := by decide +kernel
theorem d_M_tellWay_159 : decode (ab_bc mt_M_tellWay) 159 = .ok (.iload_n 2, 1) := by decide +kernel
theorem d_M_tellWay_160 : decode (ab_bc mt_M_tellWay) 160 = .ok (.iaload, 1) := by decide +kernel
theorem d_M_tellWay_161 : decode (ab_bc mt_M_tellWay) 161 = .ok (.iconst (-1), 1) := by decide +kernel
theorem d_M_tellWay_162 : decode (ab_bc mt_M_tellWay) 162 = .ok (.if_icmp .ne 5, 3) := by decide +kernel
theorem d_M_tellWay_165 : decode (ab_bc mt_M_tellWay) 165 = .ok (.iconst (-1), 1) := by decide +kernel
theorem d_M_tellWay_166 : decode (ab_bc mt_M_tellWay) 166 = .ok (.ireturn, 1) := by decide +kernel
theorem d_M_tellWay_167 : decode (ab_bc mt_M_tellWay) 167 = .ok (.iload_n 2, 1) := by decide +kernel
theorem d_M_tellWay_168 : decode (ab_bc mt_M_tellWay) 168 = .ok (.istore 5, 2) := by decide +kernel
theorem d_M_tellWay_170 : decode (ab_bc mt_M_tellWay) 170 = .ok (.iload 5, 2) := by decide +kernel
theorem d_M_tellWay_172 : decode (ab_bc mt_M_tellWay) 172 = .ok (.iload_n 3, 1) := by decide +kernel
theorem d_M_tellWay_173 : decode (ab_bc mt_M_tellWay) 173 = .ok (.if_icmp .eq 51, 3) := by decide +kernel
theorem d_M_tellWay_176 : decode (ab_bc mt_M_tellWay) 176 = .ok (.aload_n 0, 1) := by decide +kernel
theorem d_M_tellWay_177 : decode (ab_bc mt_M_tellWay) 177 = .ok (.getfield 46, 3) := by decide +kernel
theorem d_M_tellWay_180 : decode (ab_bc mt_M_tellWay) 180 = .ok (.aload_n 0, 1) := by decide +kernel
theorem d_M_tellWay_181 : decode (ab_bc mt_M_tellWay) 181 = .ok (.getfield 272, 3) := by decide +kernel
theorem d_M_tellWay_184 : decode (ab_bc mt_M_tellWay) 184 = .ok (.aload_n 0, 1) := by decide +kernel
theorem d_M_tellWay_185 : decode (ab_bc mt_M_tellWay) 185 = .ok (.getfield 49, 3) := by decide +kernel
theorem d_M_tellWay_188 : decode (ab_bc mt_M_tellWay) 188 = .ok (.iload 5, 2) := by decide +kernel
theorem d_M_tellWay_190 : decode (ab_bc mt_M_tellWay) 190 = .ok (.iaload, 1) := by decide +kernel
theorem d_M_tellWay_191 : decode (ab_bc mt_M_tellWay) 191 = .ok (.iastore, 1) := by decide +kernel
theorem d_M_tellWay_192 : decode (ab_bc mt_M_tellWay) 192 = .ok (.aload_n 0, 1) := by decide +kernel
theorem d_M_tellWay_193 : decode (ab_bc mt_M_tellWay) 193 = .ok (.dup, 1) := by decide +kernel
theorem d_M_tellWay_194 : decode (ab_bc mt_M_tellWay) 194 = .ok (.getfield 272, 3) := by decide +kernel
theorem d_M_tellWay_197 : decode (ab_bc mt_M_tellWay) 197 = .ok (.iconst 1, 1) := by decide +kernel
theorem d_M_tellWay_198 : decode (ab_bc mt_M_tellWay) 198 = .ok (.iadd, 1) := by decide +kernel
theorem d_M_tellWay_199 : decode (ab_bc mt_M_tellWay) 199 = .ok (.putfield 272, 3) := by decide +kernel
theorem d_M_tellWay_202 : decode (ab_bc mt_M_tellWay) 202 = .ok (.aload_n 0, 1) := by decide +kernel
theorem d_M_tellWay_203 : decode (ab_bc mt_M_tellWay) 203 = .ok (.aload_n 0, 1) := by decide +kernel
theorem d_M_tellWay_204 : decode (ab_bc mt_M_tellWay) 204 = .ok (.getfield 46, 3) := by decide +kernel
theorem d_M_tellWay_207 : decode (ab_bc mt_M_tellWay) 207 = .ok (.aload_n 0, 1) := by decide +kernel
theorem d_M_tellWay_208 : decode (ab_bc mt_M_tellWay) 208 = .ok (.getfield 272, 3) := by decide +kernel
theorem d_M_tellWay_211 : decode (ab_bc mt_M_tellWay) 211 = .ok (.iconst 1, 1) := by decide +kernel
theorem d_M_tellWay_212 : decode (ab_bc mt_M_tellWay) 212 = .ok (.isub, 1) := by decide +kernel
theorem d_M_tellWay_213 : decode (ab_bc mt_M_tellWay) 213 = .ok (.iaload, 1) := by decide +kernel
theorem d_M_tellWay_214 : decode (ab_bc mt_M_tellWay) 214 = .ok (.iload 5, 2) := by decide +kernel
theorem d_M_tellWay_216 : decode (ab_bc mt_M_tellWay) 216 = .ok (.invokevirtual 269, 3) := by decide +kernel
theorem d_M_tellWay_219 : decode (ab_bc mt_M_tellWay) 219 = .ok (.istore 5, 2) := by decide +kernel
theorem d_M_tellWay_221 : decode (ab_bc mt_M_tellWay) 221 = .ok (.goto (-51), 3) := by decide +kernel
theorem d_M_tellWay_224 : decode (ab_bc mt_M_tellWay) 224 = .ok (.aload_n 0, 1) := by decide +kernel
theorem d_M_tellWay_225 : decode (ab_bc mt_M_tellWay) 225 = .ok (.getfield 272, 3) := by decide +kernel
theorem d_M_tellWay_228 : decode (ab_bc mt_M_tellWay) 228 = .ok (.ireturn, 1) := by decide +kernel
-- CableKeeperModel.tellWay(III)I over mx
theorem q_M_tellWay_0 {w : ab_Wd} {d n nc ns : Nat} {I : Nat → Nat → Int32} {L : Nat → Nat → Int64} {res : ab_Re} (v1 : Int32) (v2 : Int32) (v3 : Int32) (hc : nc ≤ res.2.2.2.2.2.1) (hs : ns ≤ res.2.2.2.2.2.2)
    (h : ab_E w (d + 1) mt_M_tellWay 3 [.ref mx, .int v1, .int v2, .int v3, .int 0, .null, .null, .null] [] (I, L, ab_RR, n, nc, ns) res) : ab_E w (d + 1) mt_M_tellWay 0 [.ref mx, .int v1, .int v2, .int v3, .null, .null, .null, .null] [] (I, L, ab_RR, n, nc, ns) res := by
  refine ab_iconst (v := 0) d_M_tellWay_0 rfl ?_
  refine ab_istore (i := 4) d_M_tellWay_1 (by decide) (Or.inr rfl) ?_
  exact h
theorem q_M_tellWay_3 {w : ab_Wd} {d n nc ns : Nat} {I : Nat → Nat → Int32} {L : Nat → Nat → Int64} {res : ab_Re} (v1 : Int32) (v2 : Int32) (v3 : Int32) (v4 : Int32) (hc : nc ≤ res.2.2.2.2.2.1) (hs : ns ≤ res.2.2.2.2.2.2)
    (h : (((I mx 2) ≤ v4 → (ab_E w (d + 1) mt_M_tellWay 50 [.ref mx, .int v1, .int v2, .int v3, .int 1, .int 0, .null, .null] [] ((ab_up I mx_open 0 v3), L, ab_RR, n, nc, ns) res)) ∧ (¬ (I mx 2) ≤ v4 → ((¬ v4 = v3 → (ab_E w (d + 1) mt_M_tellWay 30 [.ref mx, .int v1, .int v2, .int v3, .int v4, .null, .null, .null] [.int (-1), .int v4, .ref mx_by] (I, L, ab_RR, n, nc, ns) res)) ∧ (v4 = v3 → (ab_E w (d + 1) mt_M_tellWay 30 [.ref mx, .int v1, .int v2, .int v3, .int v4, .null, .null, .null] [.int 24, .int v4, .ref mx_by] (I, L, ab_RR, n, nc, ns) res)))))) : ab_E w (d + 1) mt_M_tellWay 3 [.ref mx, .int v1, .int v2, .int v3, .int v4, .null, .null, .null] [] (I, L, ab_RR, n, nc, ns) res := by
  refine ab_iload (i := 4) d_M_tellWay_3 rfl ?_
  refine ab_aload_n (i := 0) d_M_tellWay_5 rfl rfl ?_
  refine ab_getI (ci := 11) (k := 2) d_M_tellWay_6 v_1370 rfl (by decide) (by decide) rfl ?_
  refine ab_icmp_ge (tgt := 37) d_M_tellWay_9 (by decide) (fun c1 => ?_) (fun c1 => ?_)
  · have h := h.1 c1
    refine ab_iconst (v := 1) d_M_tellWay_37 rfl ?_
    refine ab_istore (i := 4) d_M_tellWay_38 (by decide) (Or.inr rfl) ?_
    refine ab_aload_n (i := 0) d_M_tellWay_40 rfl rfl ?_
    refine ab_getR (ci := 11) (k := 25) (j := mx_open) d_M_tellWay_41 v_1393 rfl (by decide) (by decide) rfl r_mx_25 ?_
    refine ab_iconst (v := 0) d_M_tellWay_44 rfl ?_
    refine ab_iload_n (i := 3) d_M_tellWay_45 rfl rfl ?_
    refine ab_iast d_M_tellWay_46 rfl rfl (by unfold vp_in; decide) ?_
    refine ab_iconst (v := 0) d_M_tellWay_47 rfl ?_
    refine ab_istore (i := 5) d_M_tellWay_48 (by decide) (Or.inr rfl) ?_
    exact h
  · have h := h.2 c1
    refine ab_aload_n (i := 0) d_M_tellWay_12 rfl rfl ?_
    refine ab_getR (ci := 11) (k := 24) (j := mx_by) d_M_tellWay_13 v_1392 rfl (by decide) (by decide) rfl r_mx_24 ?_
    refine ab_iload (i := 4) d_M_tellWay_16 rfl ?_
    refine ab_iload (i := 4) d_M_tellWay_18 rfl ?_
    refine ab_iload_n (i := 3) d_M_tellWay_20 rfl rfl ?_
    refine ab_icmp_ne (tgt := 29) d_M_tellWay_21 (by decide) (fun c2 => ?_) (fun c2 => ?_)
    · have h := h.1 c2
      refine ab_iconst (v := (-1)) d_M_tellWay_29 rfl ?_
      exact h
    · have h := h.2 c2
      refine ab_bipush (v := 24) d_M_tellWay_24 rfl ?_
      refine ab_goto (tgt := 30) d_M_tellWay_26 (by decide) ?_
      exact h
theorem q_M_tellWay_30 {w : ab_Wd} {d n nc ns : Nat} {I : Nat → Nat → Int32} {L : Nat → Nat → Int64} {res : ab_Re} (v1 : Int32) (v2 : Int32) (v3 : Int32) (v4 : Int32) (s1 : Int32) (s2 : Int32) (hc : nc ≤ res.2.2.2.2.2.1) (hs : ns ≤ res.2.2.2.2.2.2)
    (h : (vp_in s1 10) ∧ ab_E w (d + 1) mt_M_tellWay 3 [.ref mx, .int v1, .int v2, .int v3, .int (v4 + 1), .null, .null, .null] [] ((ab_up I mx_by s1.toNatClampNeg s2), L, ab_RR, n, nc, ns) res) : ab_E w (d + 1) mt_M_tellWay 30 [.ref mx, .int v1, .int v2, .int v3, .int v4, .null, .null, .null] [.int s2, .int s1, .ref mx_by] (I, L, ab_RR, n, nc, ns) res := by
  have g1 := h.1; have h := h.2
  refine ab_iast d_M_tellWay_30 rfl rfl g1 ?_
  refine ab_iinc (i := 4) (v := (v4 + 1)) d_M_tellWay_31 rfl rfl (by decide) (Or.inr rfl) ?_
  refine ab_goto (tgt := 3) d_M_tellWay_34 (by decide) ?_
  exact h
theorem q_M_tellWay_50 {w : ab_Wd} {d n nc ns : Nat} {I : Nat → Nat → Int32} {L : Nat → Nat → Int64} {res : ab_Re} (v1 : Int32) (v2 : Int32) (v3 : Int32) (v4 : Int32) (v5 : Int32) (hc : nc ≤ res.2.2.2.2.2.1) (hs : ns ≤ res.2.2.2.2.2.2)
    (h : ((v4 ≤ v5 → ((vp_in v2 10) ∧ ((¬ (I mx_by v2.toNatClampNeg) = (-1) → (ab_E w (d + 1) mt_M_tellWay 170 [.ref mx, .int v1, .int v2, .int v3, .int v4, .int v2, .null, .null] [] ((ab_up I mx 26 0), L, ab_RR, n, nc, ns) res)) ∧ ((I mx_by v2.toNatClampNeg) = (-1) → (res = (.inl (some (.int (-1))), ((ab_up I mx 26 0), L, ab_RR, n, nc, ns))))))) ∧ (¬ v4 ≤ v5 → (ab_E w (d + 1) mt_M_tellWay 60 [.ref mx, .int v1, .int v2, .int v3, .int v4, .int v5, .int 0, .null] [] (I, L, ab_RR, n, nc, ns) res)))) : ab_E w (d + 1) mt_M_tellWay 50 [.ref mx, .int v1, .int v2, .int v3, .int v4, .int v5, .null, .null] [] (I, L, ab_RR, n, nc, ns) res := by
  refine ab_iload (i := 5) d_M_tellWay_50 rfl ?_
  refine ab_iload (i := 4) d_M_tellWay_52 rfl ?_
  refine ab_icmp_ge (tgt := 150) d_M_tellWay_54 (by decide) (fun c1 => ?_) (fun c1 => ?_)
  · have h := h.1 c1
    refine ab_aload_n (i := 0) d_M_tellWay_150 rfl rfl ?_
    refine ab_iconst (v := 0) d_M_tellWay_151 rfl ?_
    refine ab_putI (ci := 11) (k := 26) d_M_tellWay_152 v_1394 rfl (by decide) (by decide) rfl (Or.inl rfl) rfl rfl ?_
    refine ab_aload_n (i := 0) d_M_tellWay_155 rfl rfl ?_
    refine ab_getR (ci := 11) (k := 24) (j := mx_by) d_M_tellWay_156 v_1392 rfl (by decide) (by decide) rfl r_mx_24 ?_
    refine ab_iload_n (i := 2) d_M_tellWay_159 rfl rfl ?_
    have g2 := h.1; have h := h.2
    refine ab_iald d_M_tellWay_160 rfl rfl g2 ?_
    refine ab_iconst (v := (-1)) d_M_tellWay_161 rfl ?_
    refine ab_icmp_ne (tgt := 167) d_M_tellWay_162 (by decide) (fun c3 => ?_) (fun c3 => ?_)
    · have h := h.1 c3
      refine ab_iload_n (i := 2) d_M_tellWay_167 rfl rfl ?_
      refine ab_istore (i := 5) d_M_tellWay_168 (by decide) (Or.inr rfl) ?_
      exact h
    · have h := h.2 c3
      refine ab_iconst (v := (-1)) d_M_tellWay_165 rfl ?_
      exact ab_iret (ty := .int) d_M_tellWay_166 rfl rfl h
  · have h := h.2 c1
    refine ab_iconst (v := 0) d_M_tellWay_57 rfl ?_
    refine ab_istore (i := 6) d_M_tellWay_58 (by decide) (Or.inr rfl) ?_
    exact h
theorem q_M_tellWay_60 {w : ab_Wd} {d n nc ns : Nat} {I : Nat → Nat → Int32} {L : Nat → Nat → Int64} {res : ab_Re} (v1 : Int32) (v2 : Int32) (v3 : Int32) (v4 : Int32) (v5 : Int32) (v6 : Int32) (hc : nc ≤ res.2.2.2.2.2.1) (hs : ns ≤ res.2.2.2.2.2.2)
    (h : ∃ (r1 : Int32), ab_C w d mt_M_many [.ref mx] (I, L, ab_RR, n, nc, ns) (.inl (some (.int r1)), (I, L, ab_RR, n, nc, ns)) ∧ ((r1 ≤ v6 → (ab_E w (d + 1) mt_M_tellWay 50 [.ref mx, .int v1, .int v2, .int v3, .int v4, .int (v5 + 1), .null, .null] [] (I, L, ab_RR, n, nc, ns) res)) ∧ (¬ r1 ≤ v6 → (∃ (r3 : Int32), ab_C w d mt_M_has [.int v1, .int v6] (I, L, ab_RR, n, nc, ns) (.inl (some (.int r3)), (I, L, ab_RR, n, nc, ns)) ∧ ((r3 = 0 → (ab_E w (d + 1) mt_M_tellWay 95 [.ref mx, .int v1, .int v2, .int v3, .int v4, .int v5, .int v6, .null] [.int (-1)] (I, L, ab_RR, n, nc, ns) res)) ∧ (¬ r3 = 0 → ((vp_in v5 10) ∧ ∃ (r6 : Int32), ab_C w d mt_M_otherEnd [.ref mx, .int v6, .int (I mx_open v5.toNatClampNeg)] (I, L, ab_RR, n, nc, ns) (.inl (some (.int r6)), (I, L, ab_RR, n, nc, ns)) ∧ ab_E w (d + 1) mt_M_tellWay 95 [.ref mx, .int v1, .int v2, .int v3, .int v4, .int v5, .int v6, .null] [.int r6] (I, L, ab_RR, n, nc, ns) res))))))) : ab_E w (d + 1) mt_M_tellWay 60 [.ref mx, .int v1, .int v2, .int v3, .int v4, .int v5, .int v6, .null] [] (I, L, ab_RR, n, nc, ns) res := by
  refine ab_iload (i := 6) d_M_tellWay_60 rfl ?_
  refine ab_aload_n (i := 0) d_M_tellWay_62 rfl rfl ?_
  obtain ⟨r1, hC, h⟩ := h
  refine ab_callV (me2 := mt_M_many) (b := mx) (as := []) (st := [.int v6]) (rv := (some (.int r1))) (M2 := (I, L, ab_RR, n, nc, ns)) d_M_tellWay_63 ce_M_many v_1635 v_1637 v_79 (by decide) rfl (Nat.le_of_ble_eq_true rfl) hC (Nat.le_refl _) (Nat.le_refl _) hc hs (fun j h9 => by cases h9) (fun _ _ => rfl) ?_
  show ab_E w (d + 1) mt_M_tellWay 66 [.ref mx, .int v1, .int v2, .int v3, .int v4, .int v5, .int v6, .null] [.int r1, .int v6] (I, L, ab_RR, n, nc, ns) res
  refine ab_icmp_ge (tgt := 144) d_M_tellWay_66 (by decide) (fun c2 => ?_) (fun c2 => ?_)
  · have h := h.1 c2
    refine ab_iinc (i := 5) (v := (v5 + 1)) d_M_tellWay_144 rfl rfl (by decide) (Or.inr rfl) ?_
    refine ab_goto (tgt := 50) d_M_tellWay_147 (by decide) ?_
    refine ab_drop 6 ?_
    exact h
  · have h := h.2 c2
    refine ab_iload_n (i := 1) d_M_tellWay_69 rfl rfl ?_
    refine ab_iload (i := 6) d_M_tellWay_70 rfl ?_
    obtain ⟨r3, hC, h⟩ := h
    refine ab_callS (me2 := mt_M_has) (as := [.int v1, .int v6]) (st := []) (rv := (some (.int r3))) (M2 := (I, L, ab_RR, n, nc, ns)) d_M_tellWay_72 ce_M_has ⟨v_1648, Or.inl v_1647⟩ (Nat.le_of_ble_eq_true rfl) hC (Nat.le_refl _) (Nat.le_refl _) hc hs (fun j h9 => by cases h9) (fun _ _ => rfl) ?_
    show ab_E w (d + 1) mt_M_tellWay 75 [.ref mx, .int v1, .int v2, .int v3, .int v4, .int v5, .int v6, .null] [.int r3] (I, L, ab_RR, n, nc, ns) res
    refine ab_if_eq (tgt := 94) d_M_tellWay_75 (by decide) (fun c4 => ?_) (fun c4 => ?_)
    · have h := h.1 c4
      refine ab_iconst (v := (-1)) d_M_tellWay_94 rfl ?_
      exact h
    · have h := h.2 c4
      refine ab_aload_n (i := 0) d_M_tellWay_78 rfl rfl ?_
      refine ab_iload (i := 6) d_M_tellWay_79 rfl ?_
      refine ab_aload_n (i := 0) d_M_tellWay_81 rfl rfl ?_
      refine ab_getR (ci := 11) (k := 25) (j := mx_open) d_M_tellWay_82 v_1393 rfl (by decide) (by decide) rfl r_mx_25 ?_
      refine ab_iload (i := 5) d_M_tellWay_85 rfl ?_
      have g5 := h.1; have h := h.2
      refine ab_iald d_M_tellWay_87 rfl rfl g5 ?_
      obtain ⟨r6, hC, h⟩ := h
      refine ab_callV (me2 := mt_M_otherEnd) (b := mx) (as := [.int v6, .int (I mx_open v5.toNatClampNeg)]) (st := []) (rv := (some (.int r6))) (M2 := (I, L, ab_RR, n, nc, ns)) d_M_tellWay_88 ce_M_otherEnd v_1691 v_1693 v_92 (by decide) rfl (Nat.le_of_ble_eq_true rfl) hC (Nat.le_refl _) (Nat.le_refl _) hc hs (fun j h9 => by cases h9) (fun _ _ => rfl) ?_
      show ab_E w (d + 1) mt_M_tellWay 91 [.ref mx, .int v1, .int v2, .int v3, .int v4, .int v5, .int v6, .null] [.int r6] (I, L, ab_RR, n, nc, ns) res
      refine ab_goto (tgt := 95) d_M_tellWay_91 (by decide) ?_
      exact h
theorem q_M_tellWay_95 {w : ab_Wd} {d n nc ns : Nat} {I : Nat → Nat → Int32} {L : Nat → Nat → Int64} {res : ab_Re} (v1 : Int32) (v2 : Int32) (v3 : Int32) (v4 : Int32) (v5 : Int32) (v6 : Int32) (s0 : Int32) (hc : nc ≤ res.2.2.2.2.2.1) (hs : ns ≤ res.2.2.2.2.2.2)
    (h : ((s0 = (-1) → (ab_E w (d + 1) mt_M_tellWay 138 [.ref mx, .int v1, .int v2, .int v3, .int v4, .int v5, .int v6, .int s0] [] (I, L, ab_RR, n, nc, ns) res)) ∧ (¬ s0 = (-1) → ((vp_in s0 10) ∧ (((I mx_by s0.toNatClampNeg) = (-1) → ((vp_in v4 10) ∧ ab_E w (d + 1) mt_M_tellWay 138 [.ref mx, .int v1, .int v2, .int v3, .int (v4 + 1), .int v5, .int v6, .int s0] [] ((ab_up (ab_up I mx_by s0.toNatClampNeg v6) mx_open v4.toNatClampNeg s0), L, ab_RR, n, nc, ns) res)) ∧ (¬ (I mx_by s0.toNatClampNeg) = (-1) → (ab_E w (d + 1) mt_M_tellWay 138 [.ref mx, .int v1, .int v2, .int v3, .int v4, .int v5, .int v6, .int s0] [] (I, L, ab_RR, n, nc, ns) res))))))) : ab_E w (d + 1) mt_M_tellWay 95 [.ref mx, .int v1, .int v2, .int v3, .int v4, .int v5, .int v6, .null] [.int s0] (I, L, ab_RR, n, nc, ns) res := by
  refine ab_istore (i := 7) d_M_tellWay_95 (by decide) (Or.inr rfl) ?_
  refine ab_iload (i := 7) d_M_tellWay_97 rfl ?_
  refine ab_iconst (v := (-1)) d_M_tellWay_99 rfl ?_
  refine ab_icmp_eq (tgt := 138) d_M_tellWay_100 (by decide) (fun c1 => ?_) (fun c1 => ?_)
  · have h := h.1 c1
    exact h
  · have h := h.2 c1
    refine ab_aload_n (i := 0) d_M_tellWay_103 rfl rfl ?_
    refine ab_getR (ci := 11) (k := 24) (j := mx_by) d_M_tellWay_104 v_1392 rfl (by decide) (by decide) rfl r_mx_24 ?_
    refine ab_iload (i := 7) d_M_tellWay_107 rfl ?_
    have g2 := h.1; have h := h.2
    refine ab_iald d_M_tellWay_109 rfl rfl g2 ?_
    refine ab_iconst (v := (-1)) d_M_tellWay_110 rfl ?_
    refine ab_icmp_eq (tgt := 117) d_M_tellWay_111 (by decide) (fun c3 => ?_) (fun c3 => ?_)
    · have h := h.1 c3
      refine ab_aload_n (i := 0) d_M_tellWay_117 rfl rfl ?_
      refine ab_getR (ci := 11) (k := 24) (j := mx_by) d_M_tellWay_118 v_1392 rfl (by decide) (by decide) rfl r_mx_24 ?_
      refine ab_iload (i := 7) d_M_tellWay_121 rfl ?_
      refine ab_iload (i := 6) d_M_tellWay_123 rfl ?_
      refine ab_iast d_M_tellWay_125 rfl rfl g2 ?_
      refine ab_aload_n (i := 0) d_M_tellWay_126 rfl rfl ?_
      refine ab_getR (ci := 11) (k := 25) (j := mx_open) d_M_tellWay_127 v_1393 rfl (by decide) (by decide) rfl r_mx_25 ?_
      refine ab_iload (i := 4) d_M_tellWay_130 rfl ?_
      refine ab_iload (i := 7) d_M_tellWay_132 rfl ?_
      have g4 := h.1; have h := h.2
      refine ab_iast d_M_tellWay_134 rfl rfl g4 ?_
      refine ab_iinc (i := 4) (v := (v4 + 1)) d_M_tellWay_135 rfl rfl (by decide) (Or.inr rfl) ?_
      exact h
    · have h := h.2 c3
      refine ab_goto (tgt := 138) d_M_tellWay_114 (by decide) ?_
      exact h
theorem q_M_tellWay_138 {w : ab_Wd} {d n nc ns : Nat} {I : Nat → Nat → Int32} {L : Nat → Nat → Int64} {res : ab_Re} (v1 : Int32) (v2 : Int32) (v3 : Int32) (v4 : Int32) (v5 : Int32) (v6 : Int32) (v7 : Int32) (hc : nc ≤ res.2.2.2.2.2.1) (hs : ns ≤ res.2.2.2.2.2.2)
    (h : ab_E w (d + 1) mt_M_tellWay 60 [.ref mx, .int v1, .int v2, .int v3, .int v4, .int v5, .int (v6 + 1), .null] [] (I, L, ab_RR, n, nc, ns) res) : ab_E w (d + 1) mt_M_tellWay 138 [.ref mx, .int v1, .int v2, .int v3, .int v4, .int v5, .int v6, .int v7] [] (I, L, ab_RR, n, nc, ns) res := by
  refine ab_iinc (i := 6) (v := (v6 + 1)) d_M_tellWay_138 rfl rfl (by decide) (Or.inr rfl) ?_
  refine ab_goto (tgt := 60) d_M_tellWay_141 (by decide) ?_
  refine ab_drop 7 ?_
  exact h
theorem q_M_tellWay_170 {w : ab_Wd} {d n nc ns : Nat} {I : Nat → Nat → Int32} {L : Nat → Nat → Int64} {res : ab_Re} (v1 : Int32) (v2 : Int32) (v3 : Int32) (v4 : Int32) (v5 : Int32) (hc : nc ≤ res.2.2.2.2.2.1) (hs : ns ≤ res.2.2.2.2.2.2)
    (h : ((v5 = v3 → (res = (.inl (some (.int (I mx 26))), (I, L, ab_RR, n, nc, ns)))) ∧ (¬ v5 = v3 → ((vp_in v5 10) ∧ (vp_in (I mx 26) 10) ∧ (vp_in (((I mx 26) + 1) - 1) 10) ∧ ∃ (r5 : Int32), ab_C w d mt_M_otherEnd [.ref mx, .int ((ab_up (ab_up I mx_way (I mx 26).toNatClampNeg (I mx_by v5.toNatClampNeg)) mx 26 ((I mx 26) + 1)) mx_way (((I mx 26) + 1) - 1).toNatClampNeg), .int v5] ((ab_up (ab_up I mx_way (I mx 26).toNatClampNeg (I mx_by v5.toNatClampNeg)) mx 26 ((I mx 26) + 1)), L, ab_RR, n, nc, ns) (.inl (some (.int r5)), ((ab_up (ab_up I mx_way (I mx 26).toNatClampNeg (I mx_by v5.toNatClampNeg)) mx 26 ((I mx 26) + 1)), L, ab_RR, n, nc, ns)) ∧ ab_E w (d + 1) mt_M_tellWay 170 [.ref mx, .int v1, .int v2, .int v3, .int v4, .int r5, .null, .null] [] ((ab_up (ab_up I mx_way (I mx 26).toNatClampNeg (I mx_by v5.toNatClampNeg)) mx 26 ((I mx 26) + 1)), L, ab_RR, n, nc, ns) res)))) : ab_E w (d + 1) mt_M_tellWay 170 [.ref mx, .int v1, .int v2, .int v3, .int v4, .int v5, .null, .null] [] (I, L, ab_RR, n, nc, ns) res := by
  refine ab_iload (i := 5) d_M_tellWay_170 rfl ?_
  refine ab_iload_n (i := 3) d_M_tellWay_172 rfl rfl ?_
  refine ab_icmp_eq (tgt := 224) d_M_tellWay_173 (by decide) (fun c1 => ?_) (fun c1 => ?_)
  · have h := h.1 c1
    refine ab_aload_n (i := 0) d_M_tellWay_224 rfl rfl ?_
    refine ab_getI (ci := 11) (k := 26) d_M_tellWay_225 v_1394 rfl (by decide) (by decide) rfl ?_
    exact ab_iret (ty := .int) d_M_tellWay_228 rfl rfl h
  · have h := h.2 c1
    refine ab_aload_n (i := 0) d_M_tellWay_176 rfl rfl ?_
    refine ab_getR (ci := 11) (k := 23) (j := mx_way) d_M_tellWay_177 v_1391 rfl (by decide) (by decide) rfl r_mx_23 ?_
    refine ab_aload_n (i := 0) d_M_tellWay_180 rfl rfl ?_
    refine ab_getI (ci := 11) (k := 26) d_M_tellWay_181 v_1394 rfl (by decide) (by decide) rfl ?_
    refine ab_aload_n (i := 0) d_M_tellWay_184 rfl rfl ?_
    refine ab_getR (ci := 11) (k := 24) (j := mx_by) d_M_tellWay_185 v_1392 rfl (by decide) (by decide) rfl r_mx_24 ?_
    refine ab_iload (i := 5) d_M_tellWay_188 rfl ?_
    have g2 := h.1; have h := h.2
    refine ab_iald d_M_tellWay_190 rfl rfl g2 ?_
    have g3 := h.1; have h := h.2
    refine ab_iast d_M_tellWay_191 rfl rfl g3 ?_
    refine ab_aload_n (i := 0) d_M_tellWay_192 rfl rfl ?_
    refine ab_dupr d_M_tellWay_193 ?_
    refine ab_getI (ci := 11) (k := 26) d_M_tellWay_194 v_1394 rfl (by decide) (by decide) rfl ?_
    refine ab_iconst (v := 1) d_M_tellWay_197 rfl ?_
    refine ab_iadd d_M_tellWay_198 ?_
    refine ab_putI (ci := 11) (k := 26) d_M_tellWay_199 v_1394 rfl (by decide) (by decide) rfl (Or.inl rfl) rfl rfl ?_
    refine ab_aload_n (i := 0) d_M_tellWay_202 rfl rfl ?_
    refine ab_aload_n (i := 0) d_M_tellWay_203 rfl rfl ?_
    refine ab_getR (ci := 11) (k := 23) (j := mx_way) d_M_tellWay_204 v_1391 rfl (by decide) (by decide) rfl r_mx_23 ?_
    refine ab_aload_n (i := 0) d_M_tellWay_207 rfl rfl ?_
    refine ab_getI (ci := 11) (k := 26) d_M_tellWay_208 v_1394 rfl (by decide) (by decide) rfl ?_
    refine ab_iconst (v := 1) d_M_tellWay_211 rfl ?_
    refine ab_isub d_M_tellWay_212 ?_
    have g4 := h.1; have h := h.2
    refine ab_iald d_M_tellWay_213 rfl rfl g4 ?_
    refine ab_iload (i := 5) d_M_tellWay_214 rfl ?_
    obtain ⟨r5, hC, h⟩ := h
    refine ab_callV (me2 := mt_M_otherEnd) (b := mx) (as := [.int ((ab_up (ab_up I mx_way (I mx 26).toNatClampNeg (I mx_by v5.toNatClampNeg)) mx 26 ((I mx 26) + 1)) mx_way (((I mx 26) + 1) - 1).toNatClampNeg), .int v5]) (st := []) (rv := (some (.int r5))) (M2 := ((ab_up (ab_up I mx_way (I mx 26).toNatClampNeg (I mx_by v5.toNatClampNeg)) mx 26 ((I mx 26) + 1)), L, ab_RR, n, nc, ns)) d_M_tellWay_216 ce_M_otherEnd v_1691 v_1693 v_92 (by decide) rfl (Nat.le_of_ble_eq_true rfl) hC (Nat.le_refl _) (Nat.le_refl _) hc hs (fun j h9 => by cases h9) (fun _ _ => rfl) ?_
    show ab_E w (d + 1) mt_M_tellWay 219 [.ref mx, .int v1, .int v2, .int v3, .int v4, .int v5, .null, .null] [.int r5] ((ab_up (ab_up I mx_way (I mx 26).toNatClampNeg (I mx_by v5.toNatClampNeg)) mx 26 ((I mx 26) + 1)), L, ab_RR, n, nc, ns) res
    refine ab_istore (i := 5) d_M_tellWay_219 (by decide) (Or.inr rfl) ?_
    refine ab_goto (tgt := 170) d_M_tellWay_221 (by decide) ?_
    exact h
theorem d_M_otherEnd_0 : decode (ab_bc mt_M_otherEnd) 0 = .ok (.aload_n 0, 1) := by decide +kernel
theorem d_M_otherEnd_1 : decode (ab_bc mt_M_otherEnd) 1 = .ok (.getfield 24, 3) := by decide +kernel
theorem d_M_otherEnd_4 : decode (ab_bc mt_M_otherEnd) 4 = .ok (.iconst 3, 1) := by decide +kernel
theorem d_M_otherEnd_5 : decode (ab_bc mt_M_otherEnd) 5 = .ok (.iload_n 1, 1) := by decide +kernel
theorem d_M_otherEnd_6 : decode (ab_bc mt_M_otherEnd) 6 = .ok (.iadd, 1) := by decide +kernel
theorem d_M_otherEnd_7 : decode (ab_bc mt_M_otherEnd) 7 = .ok (.iaload, 1) := by decide +kernel
theorem d_M_otherEnd_8 : decode (ab_bc mt_M_otherEnd) 8 = .ok (.iload_n 2, 1) := by decide +kernel
theorem d_M_otherEnd_9 : decode (ab_bc mt_M_otherEnd) 9 = .ok (.if_icmp .ne 15, 3) := by decide +kernel
theorem d_M_otherEnd_12 : decode (ab_bc mt_M_otherEnd) 12 = .ok (.aload_n 0, 1) := by decide +kernel
theorem d_M_otherEnd_13 : decode (ab_bc mt_M_otherEnd) 13 = .ok (.getfield 24, 3) := by decide +kernel
theorem d_M_otherEnd_16 : decode (ab_bc mt_M_otherEnd) 16 = .ok (.bipush 27, 2) := by decide +kernel
theorem d_M_otherEnd_18 : decode (ab_bc mt_M_otherEnd) 18 = .ok (.iload_n 1, 1) := by decide +kernel
theorem d_M_otherEnd_19 : decode (ab_bc mt_M_otherEnd) 19 = .ok (.iadd, 1) := by decide +kernel
theorem d_M_otherEnd_20 : decode (ab_bc mt_M_otherEnd) 20 = .ok (.iaload, 1) := by decide +kernel
theorem d_M_otherEnd_21 : decode (ab_bc mt_M_otherEnd) 21 = .ok (.goto 28, 3) := by decide +kernel
theorem d_M_otherEnd_24 : decode (ab_bc mt_M_otherEnd) 24 = .ok (.aload_n 0, 1) := by decide +kernel
theorem d_M_otherEnd_25 : decode (ab_bc mt_M_otherEnd) 25 = .ok (.getfield 24, 3) := by decide +kernel
theorem d_M_otherEnd_28 : decode (ab_bc mt_M_otherEnd) 28 = .ok (.bipush 27, 2) := by decide +kernel
theorem d_M_otherEnd_30 : decode (ab_bc mt_M_otherEnd) 30 = .ok (.iload_n 1, 1) := by decide +kernel
theorem d_M_otherEnd_31 : decode (ab_bc mt_M_otherEnd) 31 = .ok (.iadd, 1) := by decide +kernel
theorem d_M_otherEnd_32 : decode (ab_bc mt_M_otherEnd) 32 = .ok (.iaload, 1) := by decide +kernel
theorem d_M_otherEnd_33 : decode (ab_bc mt_M_otherEnd) 33 = .ok (.iload_n 2, 1) := by decide +kernel
theorem d_M_otherEnd_34 : decode (ab_bc mt_M_otherEnd) 34 = .ok (.if_icmp .ne 14, 3) := by decide +kernel
theorem d_M_otherEnd_37 : decode (ab_bc mt_M_otherEnd) 37 = .ok (.aload_n 0, 1) := by decide +kernel
theorem d_M_otherEnd_38 : decode (ab_bc mt_M_otherEnd) 38 = .ok (.getfield 24, 3) := by decide +kernel
theorem d_M_otherEnd_41 : decode (ab_bc mt_M_otherEnd) 41 = .ok (.iconst 3, 1) := by decide +kernel
theorem d_M_otherEnd_42 : decode (ab_bc mt_M_otherEnd) 42 = .ok (.iload_n 1, 1) := by decide +kernel
theorem d_M_otherEnd_43 : decode (ab_bc mt_M_otherEnd) 43 = .ok (.iadd, 1) := by decide +kernel
theorem d_M_otherEnd_44 : decode (ab_bc mt_M_otherEnd) 44 = .ok (.iaload, 1) := by decide +kernel
theorem d_M_otherEnd_45 : decode (ab_bc mt_M_otherEnd) 45 = .ok (.goto 4, 3) := by decide +kernel
theorem d_M_otherEnd_48 : decode (ab_bc mt_M_otherEnd) 48 = .ok (.iconst (-1), 1) := by decide +kernel
theorem d_M_otherEnd_49 : decode (ab_bc mt_M_otherEnd) 49 = .ok (.ireturn, 1) := by decide +kernel
-- CableKeeperModel.otherEnd(II)I over mx
theorem q_M_otherEnd_0 {w : ab_Wd} {d n nc ns : Nat} {I : Nat → Nat → Int32} {L : Nat → Nat → Int64} {res : ab_Re} (v1 : Int32) (v2 : Int32) (hc : nc ≤ res.2.2.2.2.2.1) (hs : ns ≤ res.2.2.2.2.2.2)
    (h : (vp_in (3 + v1) 399) ∧ ((¬ (I mx_now (3 + v1).toNatClampNeg) = v2 → ((vp_in (27 + v1) 399) ∧ ((¬ (I mx_now (27 + v1).toNatClampNeg) = v2 → (ab_E w d mt_M_otherEnd 49 [.ref mx, .int v1, .int v2] [.int (-1)] (I, L, ab_RR, n, nc, ns) res)) ∧ ((I mx_now (27 + v1).toNatClampNeg) = v2 → (ab_E w d mt_M_otherEnd 49 [.ref mx, .int v1, .int v2] [.int (I mx_now (3 + v1).toNatClampNeg)] (I, L, ab_RR, n, nc, ns) res))))) ∧ ((I mx_now (3 + v1).toNatClampNeg) = v2 → ((vp_in (27 + v1) 399) ∧ ab_E w d mt_M_otherEnd 49 [.ref mx, .int v1, .int v2] [.int (I mx_now (27 + v1).toNatClampNeg)] (I, L, ab_RR, n, nc, ns) res)))) : ab_E w d mt_M_otherEnd 0 [.ref mx, .int v1, .int v2] [] (I, L, ab_RR, n, nc, ns) res := by
  refine ab_aload_n (i := 0) d_M_otherEnd_0 rfl rfl ?_
  refine ab_getR (ci := 11) (k := 4) (j := mx_now) d_M_otherEnd_1 v_1372 rfl (by decide) (by decide) rfl r_mx_4 ?_
  refine ab_iconst (v := 3) d_M_otherEnd_4 rfl ?_
  refine ab_iload_n (i := 1) d_M_otherEnd_5 rfl rfl ?_
  refine ab_iadd d_M_otherEnd_6 ?_
  have g1 := h.1; have h := h.2
  refine ab_iald d_M_otherEnd_7 rfl rfl g1 ?_
  refine ab_iload_n (i := 2) d_M_otherEnd_8 rfl rfl ?_
  refine ab_icmp_ne (tgt := 24) d_M_otherEnd_9 (by decide) (fun c2 => ?_) (fun c2 => ?_)
  · have h := h.1 c2
    refine ab_aload_n (i := 0) d_M_otherEnd_24 rfl rfl ?_
    refine ab_getR (ci := 11) (k := 4) (j := mx_now) d_M_otherEnd_25 v_1372 rfl (by decide) (by decide) rfl r_mx_4 ?_
    refine ab_bipush (v := 27) d_M_otherEnd_28 rfl ?_
    refine ab_iload_n (i := 1) d_M_otherEnd_30 rfl rfl ?_
    refine ab_iadd d_M_otherEnd_31 ?_
    have g3 := h.1; have h := h.2
    refine ab_iald d_M_otherEnd_32 rfl rfl g3 ?_
    refine ab_iload_n (i := 2) d_M_otherEnd_33 rfl rfl ?_
    refine ab_icmp_ne (tgt := 48) d_M_otherEnd_34 (by decide) (fun c4 => ?_) (fun c4 => ?_)
    · have h := h.1 c4
      refine ab_iconst (v := (-1)) d_M_otherEnd_48 rfl ?_
      exact h
    · have h := h.2 c4
      refine ab_aload_n (i := 0) d_M_otherEnd_37 rfl rfl ?_
      refine ab_getR (ci := 11) (k := 4) (j := mx_now) d_M_otherEnd_38 v_1372 rfl (by decide) (by decide) rfl r_mx_4 ?_
      refine ab_iconst (v := 3) d_M_otherEnd_41 rfl ?_
      refine ab_iload_n (i := 1) d_M_otherEnd_42 rfl rfl ?_
      refine ab_iadd d_M_otherEnd_43 ?_
      refine ab_iald d_M_otherEnd_44 rfl rfl g1 ?_
      refine ab_goto (tgt := 49) d_M_otherEnd_45 (by decide) ?_
      exact h
  · have h := h.2 c2
    refine ab_aload_n (i := 0) d_M_otherEnd_12 rfl rfl ?_
    refine ab_getR (ci := 11) (k := 4) (j := mx_now) d_M_otherEnd_13 v_1372 rfl (by decide) (by decide) rfl r_mx_4 ?_
    refine ab_bipush (v := 27) d_M_otherEnd_16 rfl ?_
    refine ab_iload_n (i := 1) d_M_otherEnd_18 rfl rfl ?_
    refine ab_iadd d_M_otherEnd_19 ?_
    have g5 := h.1; have h := h.2
    refine ab_iald d_M_otherEnd_20 rfl rfl g5 ?_
    refine ab_goto (tgt := 49) d_M_otherEnd_21 (by decide) ?_
    exact h
theorem q_M_otherEnd_49 {w : ab_Wd} {d n nc ns : Nat} {I : Nat → Nat → Int32} {L : Nat → Nat → Int64} {res : ab_Re} (v1 : Int32) (v2 : Int32) (s0 : Int32) (hc : nc ≤ res.2.2.2.2.2.1) (hs : ns ≤ res.2.2.2.2.2.2)
    (h : res = (.inl (some (.int s0)), (I, L, ab_RR, n, nc, ns))) : ab_E w d mt_M_otherEnd 49 [.ref mx, .int v1, .int v2] [.int s0] (I, L, ab_RR, n, nc, ns) res := by
  exact ab_iret (ty := .int) d_M_otherEnd_49 rfl rfl h
theorem d_M_dearestOnWay_0 : decode (ab_bc mt_M_dearestOnWay) 0 = .ok (.iconst (-1), 1) := by decide +kernel
theorem d_M_dearestOnWay_1 : decode (ab_bc mt_M_dearestOnWay) 1 = .ok (.istore_n 1, 1) := by decide +kernel
theorem d_M_dearestOnWay_2 : decode (ab_bc mt_M_dearestOnWay) 2 = .ok (.iconst 0, 1) := by decide +kernel
theorem d_M_dearestOnWay_3 : decode (ab_bc mt_M_dearestOnWay) 3 = .ok (.istore_n 2, 1) := by decide +kernel
theorem d_M_dearestOnWay_4 : decode (ab_bc mt_M_dearestOnWay) 4 = .ok (.iload_n 2, 1) := by decide +kernel
theorem d_M_dearestOnWay_5 : decode (ab_bc mt_M_dearestOnWay) 5 = .ok (.aload_n 0, 1) := by decide +kernel
theorem d_M_dearestOnWay_6 : decode (ab_bc mt_M_dearestOnWay) 6 = .ok (.getfield 272, 3) := by decide +kernel
theorem d_M_dearestOnWay_9 : decode (ab_bc mt_M_dearestOnWay) 9 = .ok (.if_icmp .ge 35, 3) := by decide +kernel
theorem d_M_dearestOnWay_12 : decode (ab_bc mt_M_dearestOnWay) 12 = .ok (.iload_n 1, 1) := by decide +kernel
theorem d_M_dearestOnWay_13 : decode (ab_bc mt_M_dearestOnWay) 13 = .ok (.iconst (-1), 1) := by decide +kernel
theorem d_M_dearestOnWay_14 : decode (ab_bc mt_M_dearestOnWay) 14 = .ok (.if_icmp .eq 17, 3) := by decide +kernel
theorem d_M_dearestOnWay_17 : decode (ab_bc mt_M_dearestOnWay) 17 = .ok (.aload_n 0, 1) := by decide +kernel
theorem d_M_dearestOnWay_18 : decode (ab_bc mt_M_dearestOnWay) 18 = .ok (.iload_n 1, 1) := by decide +kernel
theorem d_M_dearestOnWay_19 : decode (ab_bc mt_M_dearestOnWay) 19 = .ok (.aload_n 0, 1) := by decide +kernel
theorem d_M_dearestOnWay_20 : decode (ab_bc mt_M_dearestOnWay) 20 = .ok (.getfield 46, 3) := by decide +kernel
theorem d_M_dearestOnWay_23 : decode (ab_bc mt_M_dearestOnWay) 23 = .ok (.iload_n 2, 1) := by decide +kernel
theorem d_M_dearestOnWay_24 : decode (ab_bc mt_M_dearestOnWay) 24 = .ok (.iaload, 1) := by decide +kernel
theorem d_M_dearestOnWay_25 : decode (ab_bc mt_M_dearestOnWay) 25 = .ok (.invokevirtual 241, 3) := by decide +kernel
theorem d_M_dearestOnWay_28 : decode (ab_bc mt_M_dearestOnWay) 28 = .ok (.ifCond .eq 10, 3) := by decide +kernel
theorem d_M_dearestOnWay_31 : decode (ab_bc mt_M_dearestOnWay) 31 = .ok (.aload_n 0, 1) := by decide +kernel
theorem d_M_dearestOnWay_32 : decode (ab_bc mt_M_dearestOnWay) 32 = .ok (.getfield 46, 3) := by decide +kernel
theorem d_M_dearestOnWay_35 : decode (ab_bc mt_M_dearestOnWay) 35 = .ok (.iload_n 2, 1) := by decide +kernel
theorem d_M_dearestOnWay_36 : decode (ab_bc mt_M_dearestOnWay) 36 = .ok (.iaload, 1) := by decide +kernel
theorem d_M_dearestOnWay_37 : decode (ab_bc mt_M_dearestOnWay) 37 = .ok (.istore_n 1, 1) := by decide +kernel
theorem d_M_dearestOnWay_38 : decode (ab_bc mt_M_dearestOnWay) 38 = .ok (.iinc 2 1, 3) := by decide +kernel
theorem d_M_dearestOnWay_41 : decode (ab_bc mt_M_dearestOnWay) 41 = .ok (.goto (-37), 3) := by decide +kernel
theorem d_M_dearestOnWay_44 : decode (ab_bc mt_M_dearestOnWay) 44 = .ok (.iload_n 1, 1) := by decide +kernel
theorem d_M_dearestOnWay_45 : decode (ab_bc mt_M_dearestOnWay) 45 = .ok (.ireturn, 1) := by decide +kernel
-- CableKeeperModel.dearestOnWay()I over mx
theorem q_M_dearestOnWay_0 {w : ab_Wd} {d n nc ns : Nat} {I : Nat → Nat → Int32} {L : Nat → Nat → Int64} {res : ab_Re}  (hc : nc ≤ res.2.2.2.2.2.1) (hs : ns ≤ res.2.2.2.2.2.2)
    (h : ab_E w (d + 1) mt_M_dearestOnWay 4 [.ref mx, .int (-1), .int 0] [] (I, L, ab_RR, n, nc, ns) res) : ab_E w (d + 1) mt_M_dearestOnWay 0 [.ref mx, .null, .null] [] (I, L, ab_RR, n, nc, ns) res := by
  refine ab_iconst (v := (-1)) d_M_dearestOnWay_0 rfl ?_
  refine ab_istore_n (i := 1) d_M_dearestOnWay_1 rfl (by decide) (Or.inr rfl) ?_
  refine ab_iconst (v := 0) d_M_dearestOnWay_2 rfl ?_
  refine ab_istore_n (i := 2) d_M_dearestOnWay_3 rfl (by decide) (Or.inr rfl) ?_
  exact h
theorem q_M_dearestOnWay_4 {w : ab_Wd} {d n nc ns : Nat} {I : Nat → Nat → Int32} {L : Nat → Nat → Int64} {res : ab_Re} (v1 : Int32) (v2 : Int32) (hc : nc ≤ res.2.2.2.2.2.1) (hs : ns ≤ res.2.2.2.2.2.2)
    (h : (((I mx 26) ≤ v2 → (res = (.inl (some (.int v1)), (I, L, ab_RR, n, nc, ns)))) ∧ (¬ (I mx 26) ≤ v2 → ((v1 = (-1) → (ab_E w (d + 1) mt_M_dearestOnWay 31 [.ref mx, .int v1, .int v2] [] (I, L, ab_RR, n, nc, ns) res)) ∧ (¬ v1 = (-1) → ((vp_in v2 10) ∧ ∃ (r4 : Int32), ab_C w d mt_M_isCheaper [.ref mx, .int v1, .int (I mx_way v2.toNatClampNeg)] (I, L, ab_RR, n, nc, ns) (.inl (some (.int r4)), (I, L, ab_RR, n, nc, ns)) ∧ ((r4 = 0 → (ab_E w (d + 1) mt_M_dearestOnWay 38 [.ref mx, .int v1, .int v2] [] (I, L, ab_RR, n, nc, ns) res)) ∧ (¬ r4 = 0 → (ab_E w (d + 1) mt_M_dearestOnWay 31 [.ref mx, .int v1, .int v2] [] (I, L, ab_RR, n, nc, ns) res))))))))) : ab_E w (d + 1) mt_M_dearestOnWay 4 [.ref mx, .int v1, .int v2] [] (I, L, ab_RR, n, nc, ns) res := by
  refine ab_iload_n (i := 2) d_M_dearestOnWay_4 rfl rfl ?_
  refine ab_aload_n (i := 0) d_M_dearestOnWay_5 rfl rfl ?_
  refine ab_getI (ci := 11) (k := 26) d_M_dearestOnWay_6 v_1394 rfl (by decide) (by decide) rfl ?_
  refine ab_icmp_ge (tgt := 44) d_M_dearestOnWay_9 (by decide) (fun c1 => ?_) (fun c1 => ?_)
  · have h := h.1 c1
    refine ab_iload_n (i := 1) d_M_dearestOnWay_44 rfl rfl ?_
    exact ab_iret (ty := .int) d_M_dearestOnWay_45 rfl rfl h
  · have h := h.2 c1
    refine ab_iload_n (i := 1) d_M_dearestOnWay_12 rfl rfl ?_
    refine ab_iconst (v := (-1)) d_M_dearestOnWay_13 rfl ?_
    refine ab_icmp_eq (tgt := 31) d_M_dearestOnWay_14 (by decide) (fun c2 => ?_) (fun c2 => ?_)
    · have h := h.1 c2
      exact h
    · have h := h.2 c2
      refine ab_aload_n (i := 0) d_M_dearestOnWay_17 rfl rfl ?_
      refine ab_iload_n (i := 1) d_M_dearestOnWay_18 rfl rfl ?_
      refine ab_aload_n (i := 0) d_M_dearestOnWay_19 rfl rfl ?_
      refine ab_getR (ci := 11) (k := 23) (j := mx_way) d_M_dearestOnWay_20 v_1391 rfl (by decide) (by decide) rfl r_mx_23 ?_
      refine ab_iload_n (i := 2) d_M_dearestOnWay_23 rfl rfl ?_
      have g3 := h.1; have h := h.2
      refine ab_iald d_M_dearestOnWay_24 rfl rfl g3 ?_
      obtain ⟨r4, hC, h⟩ := h
      refine ab_callV (me2 := mt_M_isCheaper) (b := mx) (as := [.int v1, .int (I mx_way v2.toNatClampNeg)]) (st := []) (rv := (some (.int r4))) (M2 := (I, L, ab_RR, n, nc, ns)) d_M_dearestOnWay_25 ce_M_isCheaper v_1650 v_1652 v_82 (by decide) rfl (Nat.le_of_ble_eq_true rfl) hC (Nat.le_refl _) (Nat.le_refl _) hc hs (fun j h9 => by cases h9) (fun _ _ => rfl) ?_
      show ab_E w (d + 1) mt_M_dearestOnWay 28 [.ref mx, .int v1, .int v2] [.int r4] (I, L, ab_RR, n, nc, ns) res
      refine ab_if_eq (tgt := 38) d_M_dearestOnWay_28 (by decide) (fun c5 => ?_) (fun c5 => ?_)
      · have h := h.1 c5
        exact h
      · have h := h.2 c5
        exact h
theorem q_M_dearestOnWay_31 {w : ab_Wd} {d n nc ns : Nat} {I : Nat → Nat → Int32} {L : Nat → Nat → Int64} {res : ab_Re} (v1 : Int32) (v2 : Int32) (hc : nc ≤ res.2.2.2.2.2.1) (hs : ns ≤ res.2.2.2.2.2.2)
    (h : (vp_in v2 10) ∧ ab_E w (d + 1) mt_M_dearestOnWay 38 [.ref mx, .int (I mx_way v2.toNatClampNeg), .int v2] [] (I, L, ab_RR, n, nc, ns) res) : ab_E w (d + 1) mt_M_dearestOnWay 31 [.ref mx, .int v1, .int v2] [] (I, L, ab_RR, n, nc, ns) res := by
  refine ab_aload_n (i := 0) d_M_dearestOnWay_31 rfl rfl ?_
  refine ab_getR (ci := 11) (k := 23) (j := mx_way) d_M_dearestOnWay_32 v_1391 rfl (by decide) (by decide) rfl r_mx_23 ?_
  refine ab_iload_n (i := 2) d_M_dearestOnWay_35 rfl rfl ?_
  have g1 := h.1; have h := h.2
  refine ab_iald d_M_dearestOnWay_36 rfl rfl g1 ?_
  refine ab_istore_n (i := 1) d_M_dearestOnWay_37 rfl (by decide) (Or.inr rfl) ?_
  exact h
theorem q_M_dearestOnWay_38 {w : ab_Wd} {d n nc ns : Nat} {I : Nat → Nat → Int32} {L : Nat → Nat → Int64} {res : ab_Re} (v1 : Int32) (v2 : Int32) (hc : nc ≤ res.2.2.2.2.2.1) (hs : ns ≤ res.2.2.2.2.2.2)
    (h : ab_E w (d + 1) mt_M_dearestOnWay 4 [.ref mx, .int v1, .int (v2 + 1)] [] (I, L, ab_RR, n, nc, ns) res) : ab_E w (d + 1) mt_M_dearestOnWay 38 [.ref mx, .int v1, .int v2] [] (I, L, ab_RR, n, nc, ns) res := by
  refine ab_iinc (i := 2) (v := (v2 + 1)) d_M_dearestOnWay_38 rfl rfl (by decide) (Or.inr rfl) ?_
  refine ab_goto (tgt := 4) d_M_dearestOnWay_41 (by decide) ?_
  exact h
theorem d_M_pricesOnWay_0 : decode (ab_bc mt_M_pricesOnWay) 0 = .ok (.iconst 0, 1) := by decide +kernel
theorem d_M_pricesOnWay_1 : decode (ab_bc mt_M_pricesOnWay) 1 = .ok (.istore_n 1, 1) := by decide +kernel
theorem d_M_pricesOnWay_2 : decode (ab_bc mt_M_pricesOnWay) 2 = .ok (.iconst 0, 1) := by decide +kernel
theorem d_M_pricesOnWay_3 : decode (ab_bc mt_M_pricesOnWay) 3 = .ok (.istore_n 2, 1) := by decide +kernel
theorem d_M_pricesOnWay_4 : decode (ab_bc mt_M_pricesOnWay) 4 = .ok (.iload_n 2, 1) := by decide +kernel
theorem d_M_pricesOnWay_5 : decode (ab_bc mt_M_pricesOnWay) 5 = .ok (.aload_n 0, 1) := by decide +kernel
theorem d_M_pricesOnWay_6 : decode (ab_bc mt_M_pricesOnWay) 6 = .ok (.getfield 272, 3) := by decide +kernel
theorem d_M_pricesOnWay_9 : decode (ab_bc mt_M_pricesOnWay) 9 = .ok (.if_icmp .ge 22, 3) := by decide +kernel
theorem d_M_pricesOnWay_12 : decode (ab_bc mt_M_pricesOnWay) 12 = .ok (.iload_n 1, 1) := by decide +kernel
theorem d_M_pricesOnWay_13 : decode (ab_bc mt_M_pricesOnWay) 13 = .ok (.aload_n 0, 1) := by decide +kernel
theorem d_M_pricesOnWay_14 : decode (ab_bc mt_M_pricesOnWay) 14 = .ok (.aload_n 0, 1) := by decide +kernel
theorem d_M_pricesOnWay_15 : decode (ab_bc mt_M_pricesOnWay) 15 = .ok (.getfield 46, 3) := by decide +kernel
theorem d_M_pricesOnWay_18 : decode (ab_bc mt_M_pricesOnWay) 18 = .ok (.iload_n 2, 1) := by decide +kernel
theorem d_M_pricesOnWay_19 : decode (ab_bc mt_M_pricesOnWay) 19 = .ok (.iaload, 1) := by decide +kernel
theorem d_M_pricesOnWay_20 : decode (ab_bc mt_M_pricesOnWay) 20 = .ok (.invokevirtual 222, 3) := by decide +kernel
theorem d_M_pricesOnWay_23 : decode (ab_bc mt_M_pricesOnWay) 23 = .ok (.iadd, 1) := by decide +kernel
theorem d_M_pricesOnWay_24 : decode (ab_bc mt_M_pricesOnWay) 24 = .ok (.istore_n 1, 1) := by decide +kernel
theorem d_M_pricesOnWay_25 : decode (ab_bc mt_M_pricesOnWay) 25 = .ok (.iinc 2 1, 3) := by decide +kernel
theorem d_M_pricesOnWay_28 : decode (ab_bc mt_M_pricesOnWay) 28 = .ok (.goto (-24), 3) := by decide +kernel
theorem d_M_pricesOnWay_31 : decode (ab_bc mt_M_pricesOnWay) 31 = .ok (.iload_n 1, 1) := by decide +kernel
theorem d_M_pricesOnWay_32 : decode (ab_bc mt_M_pricesOnWay) 32 = .ok (.ireturn, 1) := by decide +kernel
-- CableKeeperModel.pricesOnWay()I over mx
theorem q_M_pricesOnWay_0 {w : ab_Wd} {d n nc ns : Nat} {I : Nat → Nat → Int32} {L : Nat → Nat → Int64} {res : ab_Re}  (hc : nc ≤ res.2.2.2.2.2.1) (hs : ns ≤ res.2.2.2.2.2.2)
    (h : ab_E w (d + 1) mt_M_pricesOnWay 4 [.ref mx, .int 0, .int 0] [] (I, L, ab_RR, n, nc, ns) res) : ab_E w (d + 1) mt_M_pricesOnWay 0 [.ref mx, .null, .null] [] (I, L, ab_RR, n, nc, ns) res := by
  refine ab_iconst (v := 0) d_M_pricesOnWay_0 rfl ?_
  refine ab_istore_n (i := 1) d_M_pricesOnWay_1 rfl (by decide) (Or.inr rfl) ?_
  refine ab_iconst (v := 0) d_M_pricesOnWay_2 rfl ?_
  refine ab_istore_n (i := 2) d_M_pricesOnWay_3 rfl (by decide) (Or.inr rfl) ?_
  exact h
theorem q_M_pricesOnWay_4 {w : ab_Wd} {d n nc ns : Nat} {I : Nat → Nat → Int32} {L : Nat → Nat → Int64} {res : ab_Re} (v1 : Int32) (v2 : Int32) (hc : nc ≤ res.2.2.2.2.2.1) (hs : ns ≤ res.2.2.2.2.2.2)
    (h : (((I mx 26) ≤ v2 → (res = (.inl (some (.int v1)), (I, L, ab_RR, n, nc, ns)))) ∧ (¬ (I mx 26) ≤ v2 → ((vp_in v2 10) ∧ ∃ (r3 : Int32), ab_C w d mt_M_priceOf [.ref mx, .int (I mx_way v2.toNatClampNeg)] (I, L, ab_RR, n, nc, ns) (.inl (some (.int r3)), (I, L, ab_RR, n, nc, ns)) ∧ ab_E w (d + 1) mt_M_pricesOnWay 4 [.ref mx, .int (v1 + r3), .int (v2 + 1)] [] (I, L, ab_RR, n, nc, ns) res)))) : ab_E w (d + 1) mt_M_pricesOnWay 4 [.ref mx, .int v1, .int v2] [] (I, L, ab_RR, n, nc, ns) res := by
  refine ab_iload_n (i := 2) d_M_pricesOnWay_4 rfl rfl ?_
  refine ab_aload_n (i := 0) d_M_pricesOnWay_5 rfl rfl ?_
  refine ab_getI (ci := 11) (k := 26) d_M_pricesOnWay_6 v_1394 rfl (by decide) (by decide) rfl ?_
  refine ab_icmp_ge (tgt := 31) d_M_pricesOnWay_9 (by decide) (fun c1 => ?_) (fun c1 => ?_)
  · have h := h.1 c1
    refine ab_iload_n (i := 1) d_M_pricesOnWay_31 rfl rfl ?_
    exact ab_iret (ty := .int) d_M_pricesOnWay_32 rfl rfl h
  · have h := h.2 c1
    refine ab_iload_n (i := 1) d_M_pricesOnWay_12 rfl rfl ?_
    refine ab_aload_n (i := 0) d_M_pricesOnWay_13 rfl rfl ?_
    refine ab_aload_n (i := 0) d_M_pricesOnWay_14 rfl rfl ?_
    refine ab_getR (ci := 11) (k := 23) (j := mx_way) d_M_pricesOnWay_15 v_1391 rfl (by decide) (by decide) rfl r_mx_23 ?_
    refine ab_iload_n (i := 2) d_M_pricesOnWay_18 rfl rfl ?_
    have g2 := h.1; have h := h.2
    refine ab_iald d_M_pricesOnWay_19 rfl rfl g2 ?_
    obtain ⟨r3, hC, h⟩ := h
    refine ab_callV (me2 := mt_M_priceOf) (b := mx) (as := [.int (I mx_way v2.toNatClampNeg)]) (st := [.int v1]) (rv := (some (.int r3))) (M2 := (I, L, ab_RR, n, nc, ns)) d_M_pricesOnWay_20 ce_M_priceOf v_1654 v_1656 v_83 (by decide) rfl (Nat.le_of_ble_eq_true rfl) hC (Nat.le_refl _) (Nat.le_refl _) hc hs (fun j h9 => by cases h9) (fun _ _ => rfl) ?_
    show ab_E w (d + 1) mt_M_pricesOnWay 23 [.ref mx, .int v1, .int v2] [.int r3, .int v1] (I, L, ab_RR, n, nc, ns) res
    refine ab_iadd d_M_pricesOnWay_23 ?_
    refine ab_istore_n (i := 1) d_M_pricesOnWay_24 rfl (by decide) (Or.inr rfl) ?_
    refine ab_iinc (i := 2) (v := (v2 + 1)) d_M_pricesOnWay_25 rfl rfl (by decide) (Or.inr rfl) ?_
    refine ab_goto (tgt := 4) d_M_pricesOnWay_28 (by decide) ?_
    exact h
theorem d_M_tellRing_0 : decode (ab_bc mt_M_tellRing) 0 = .ok (.aload_n 0, 1) := by decide +kernel
theorem d_M_tellRing_1 : decode (ab_bc mt_M_tellRing) 1 = .ok (.iconst 0, 1) := by decide +kernel
theorem d_M_tellRing_2 : decode (ab_bc mt_M_tellRing) 2 = .ok (.putfield 272, 3) := by decide +kernel
theorem d_M_tellRing_5 : decode (ab_bc mt_M_tellRing) 5 = .ok (.aload_n 0, 1) := by decide +kernel
theorem d_M_tellRing_6 : decode (ab_bc mt_M_tellRing) 6 = .ok (.iload_n 2, 1) := by decide +kernel
theorem d_M_tellRing_7 : decode (ab_bc mt_M_tellRing) 7 = .ok (.invokevirtual 262, 3) := by decide +kernel
theorem d_M_tellRing_10 : decode (ab_bc mt_M_tellRing) 10 = .ok (.ifCond .eq 36, 3) := by decide +kernel
theorem d_M_tellRing_13 : decode (ab_bc mt_M_tellRing) 13 = .ok (.iload_n 1, 1) := by decide +kernel
theorem d_M_tellRing_14 : decode (ab_bc mt_M_tellRing) 14 = .ok (.iload_n 2, 1) := by decide +kernel
theorem d_M_tellRing_15 : decode (ab_bc mt_M_tellRing) 15 = .ok (.invokestatic 237, 3) := by decide +kernel
theorem d_M_tellRing_18 : decode (ab_bc mt_M_tellRing) 18 = .ok (.ifCond .ne 28, 3) := by decide +kernel
theorem d_M_tellRing_21 : decode (ab_bc mt_M_tellRing) 21 = .ok (.aload_n 0, 1) := by decide +kernel
theorem d_M_tellRing_22 : decode (ab_bc mt_M_tellRing) 22 = .ok (.iload_n 1, 1) := by decide +kernel
theorem d_M_tellRing_23 : decode (ab_bc mt_M_tellRing) 23 = .ok (.aload_n 0, 1) := by decide +kernel
theorem d_M_tellRing_24 : decode (ab_bc mt_M_tellRing) 24 = .ok (.getfield 24, 3) := by decide +kernel
theorem d_M_tellRing_27 : decode (ab_bc mt_M_tellRing) 27 = .ok (.iconst 3, 1) := by decide +kernel
theorem d_M_tellRing_28 : decode (ab_bc mt_M_tellRing) 28 = .ok (.iload_n 2, 1) := by decide +kernel
theorem d_M_tellRing_29 : decode (ab_bc mt_M_tellRing) 29 = .ok (.iadd, 1) := by decide +kernel
theorem d_M_tellRing_30 : decode (ab_bc mt_M_tellRing) 30 = .ok (.iaload, 1) := by decide +kernel
theorem d_M_tellRing_31 : decode (ab_bc mt_M_tellRing) 31 = .ok (.aload_n 0, 1) := by decide +kernel
theorem d_M_tellRing_32 : decode (ab_bc mt_M_tellRing) 32 = .ok (.getfield 24, 3) := by decide +kernel
theorem d_M_tellRing_35 : decode (ab_bc mt_M_tellRing) 35 = .ok (.bipush 27, 2) := by decide +kernel
theorem d_M_tellRing_37 : decode (ab_bc mt_M_tellRing) 37 = .ok (.iload_n 2, 1) := by decide +kernel
theorem d_M_tellRing_38 : decode (ab_bc mt_M_tellRing) 38 = .ok (.iadd, 1) := by decide +kernel
theorem d_M_tellRing_39 : decode (ab_bc mt_M_tellRing) 39 = .ok (.iaload, 1) := by decide +kernel
theorem d_M_tellRing_40 : decode (ab_bc mt_M_tellRing) 40 = .ok (.invokevirtual 275, 3) := by decide +kernel
theorem d_M_tellRing_43 : decode (ab_bc mt_M_tellRing) 43 = .ok (.goto 4, 3) := by decide +kernel
theorem d_M_tellRing_46 : decode (ab_bc mt_M_tellRing) 46 = .ok (.iconst 0, 1) := by decide +kernel
theorem d_M_tellRing_47 : decode (ab_bc mt_M_tellRing) 47 = .ok (.ireturn, 1) := by decide +kernel
-- CableKeeperModel.tellRing(II)I over mx
theorem q_M_tellRing_0 {w : ab_Wd} {d n nc ns : Nat} {I : Nat → Nat → Int32} {L : Nat → Nat → Int64} {res : ab_Re} (v1 : Int32) (v2 : Int32) (hc : nc ≤ res.2.2.2.2.2.1) (hs : ns ≤ res.2.2.2.2.2.2)
    (h : ∃ (r1 : Int32), ab_C w d mt_M_isSound [.ref mx, .int v2] ((ab_up I mx 26 0), L, ab_RR, n, nc, ns) (.inl (some (.int r1)), ((ab_up I mx 26 0), L, ab_RR, n, nc, ns)) ∧ ((r1 = 0 → (ab_E w (d + 1) mt_M_tellRing 46 [.ref mx, .int v1, .int v2] [] ((ab_up I mx 26 0), L, ab_RR, n, nc, ns) res)) ∧ (¬ r1 = 0 → (∃ (r3 : Int32), ab_C w d mt_M_has [.int v1, .int v2] ((ab_up I mx 26 0), L, ab_RR, n, nc, ns) (.inl (some (.int r3)), ((ab_up I mx 26 0), L, ab_RR, n, nc, ns)) ∧ ((¬ r3 = 0 → (ab_E w (d + 1) mt_M_tellRing 46 [.ref mx, .int v1, .int v2] [] ((ab_up I mx 26 0), L, ab_RR, n, nc, ns) res)) ∧ (r3 = 0 → ((vp_in (3 + v2) 399) ∧ (vp_in (27 + v2) 399) ∧ ∃ (r7 : Int32) (I8 : Nat → Nat → Int32), ab_C w d mt_M_tellWay [.ref mx, .int v1, .int (I mx_now (3 + v2).toNatClampNeg), .int (I mx_now (27 + v2).toNatClampNeg)] ((ab_up I mx 26 0), L, ab_RR, n, nc, ns) (.inl (some (.int r7)), (I8, L, ab_RR, n, nc, ns)) ∧ ab_E w (d + 1) mt_M_tellRing 47 [.ref mx, .int v1, .int v2] [.int r7] (I8, L, ab_RR, n, nc, ns) res))))))) : ab_E w (d + 1) mt_M_tellRing 0 [.ref mx, .int v1, .int v2] [] (I, L, ab_RR, n, nc, ns) res := by
  refine ab_aload_n (i := 0) d_M_tellRing_0 rfl rfl ?_
  refine ab_iconst (v := 0) d_M_tellRing_1 rfl ?_
  refine ab_putI (ci := 11) (k := 26) d_M_tellRing_2 v_1394 rfl (by decide) (by decide) rfl (Or.inl rfl) rfl rfl ?_
  refine ab_aload_n (i := 0) d_M_tellRing_5 rfl rfl ?_
  refine ab_iload_n (i := 2) d_M_tellRing_6 rfl rfl ?_
  obtain ⟨r1, hC, h⟩ := h
  refine ab_callV (me2 := mt_M_isSound) (b := mx) (as := [.int v2]) (st := []) (rv := (some (.int r1))) (M2 := ((ab_up I mx 26 0), L, ab_RR, n, nc, ns)) d_M_tellRing_7 ce_M_isSound v_1679 v_1681 v_89 (by decide) rfl (Nat.le_of_ble_eq_true rfl) hC (Nat.le_refl _) (Nat.le_refl _) hc hs (fun j h9 => by cases h9) (fun _ _ => rfl) ?_
  show ab_E w (d + 1) mt_M_tellRing 10 [.ref mx, .int v1, .int v2] [.int r1] ((ab_up I mx 26 0), L, ab_RR, n, nc, ns) res
  refine ab_if_eq (tgt := 46) d_M_tellRing_10 (by decide) (fun c2 => ?_) (fun c2 => ?_)
  · have h := h.1 c2
    exact h
  · have h := h.2 c2
    refine ab_iload_n (i := 1) d_M_tellRing_13 rfl rfl ?_
    refine ab_iload_n (i := 2) d_M_tellRing_14 rfl rfl ?_
    obtain ⟨r3, hC, h⟩ := h
    refine ab_callS (me2 := mt_M_has) (as := [.int v1, .int v2]) (st := []) (rv := (some (.int r3))) (M2 := ((ab_up I mx 26 0), L, ab_RR, n, nc, ns)) d_M_tellRing_15 ce_M_has ⟨v_1648, Or.inl v_1647⟩ (Nat.le_of_ble_eq_true rfl) hC (Nat.le_refl _) (Nat.le_refl _) hc hs (fun j h9 => by cases h9) (fun _ _ => rfl) ?_
    show ab_E w (d + 1) mt_M_tellRing 18 [.ref mx, .int v1, .int v2] [.int r3] ((ab_up I mx 26 0), L, ab_RR, n, nc, ns) res
    refine ab_if_ne (tgt := 46) d_M_tellRing_18 (by decide) (fun c4 => ?_) (fun c4 => ?_)
    · have h := h.1 c4
      exact h
    · have h := h.2 c4
      refine ab_aload_n (i := 0) d_M_tellRing_21 rfl rfl ?_
      refine ab_iload_n (i := 1) d_M_tellRing_22 rfl rfl ?_
      refine ab_aload_n (i := 0) d_M_tellRing_23 rfl rfl ?_
      refine ab_getR (ci := 11) (k := 4) (j := mx_now) d_M_tellRing_24 v_1372 rfl (by decide) (by decide) rfl r_mx_4 ?_
      refine ab_iconst (v := 3) d_M_tellRing_27 rfl ?_
      refine ab_iload_n (i := 2) d_M_tellRing_28 rfl rfl ?_
      refine ab_iadd d_M_tellRing_29 ?_
      have g5 := h.1; have h := h.2
      refine ab_iald d_M_tellRing_30 rfl rfl g5 ?_
      refine ab_aload_n (i := 0) d_M_tellRing_31 rfl rfl ?_
      refine ab_getR (ci := 11) (k := 4) (j := mx_now) d_M_tellRing_32 v_1372 rfl (by decide) (by decide) rfl r_mx_4 ?_
      refine ab_bipush (v := 27) d_M_tellRing_35 rfl ?_
      refine ab_iload_n (i := 2) d_M_tellRing_37 rfl rfl ?_
      refine ab_iadd d_M_tellRing_38 ?_
      have g6 := h.1; have h := h.2
      refine ab_iald d_M_tellRing_39 rfl rfl g6 ?_
      obtain ⟨r7, I8, hC, h⟩ := h
      refine ab_callV (me2 := mt_M_tellWay) (b := mx) (as := [.int v1, .int (I mx_now (3 + v2).toNatClampNeg), .int (I mx_now (27 + v2).toNatClampNeg)]) (st := []) (rv := (some (.int r7))) (M2 := (I8, L, ab_RR, n, nc, ns)) d_M_tellRing_40 ce_M_tellWay v_1687 v_1689 v_91 (by decide) rfl (Nat.le_of_ble_eq_true rfl) hC (Nat.le_refl _) (Nat.le_refl _) hc hs (fun j h9 => by cases h9) (fun _ _ => rfl) ?_
      show ab_E w (d + 1) mt_M_tellRing 43 [.ref mx, .int v1, .int v2] [.int r7] (I8, L, ab_RR, n, nc, ns) res
      refine ab_goto (tgt := 47) d_M_tellRing_43 (by decide) ?_
      exact h
theorem q_M_tellRing_46 {w : ab_Wd} {d n nc ns : Nat} {I : Nat → Nat → Int32} {L : Nat → Nat → Int64} {res : ab_Re} (v1 : Int32) (v2 : Int32) (hc : nc ≤ res.2.2.2.2.2.1) (hs : ns ≤ res.2.2.2.2.2.2)
    (h : ab_E w (d + 1) mt_M_tellRing 47 [.ref mx, .int v1, .int v2] [.int 0] (I, L, ab_RR, n, nc, ns) res) : ab_E w (d + 1) mt_M_tellRing 46 [.ref mx, .int v1, .int v2] [] (I, L, ab_RR, n, nc, ns) res := by
  refine ab_iconst (v := 0) d_M_tellRing_46 rfl ?_
  exact h
theorem q_M_tellRing_47 {w : ab_Wd} {d n nc ns : Nat} {I : Nat → Nat → Int32} {L : Nat → Nat → Int64} {res : ab_Re} (v1 : Int32) (v2 : Int32) (s0 : Int32) (hc : nc ≤ res.2.2.2.2.2.1) (hs : ns ≤ res.2.2.2.2.2.2)
    (h : res = (.inl (some (.int s0)), (I, L, ab_RR, n, nc, ns))) : ab_E w (d + 1) mt_M_tellRing 47 [.ref mx, .int v1, .int v2] [.int s0] (I, L, ab_RR, n, nc, ns) res := by
  exact ab_iret (ty := .int) d_M_tellRing_47 rfl rfl h
