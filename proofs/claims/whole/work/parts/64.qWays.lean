theorem d_Ways_link_0 : decode (ab_bc mt_Ways_link) 0 = .ok (.aload_n 1, 1) := by decide +kernel
theorem d_Ways_link_1 : decode (ab_bc mt_Ways_link) 1 = .ok (.getfield 47, 3) := by decide +kernel
theorem d_Ways_link_4 : decode (ab_bc mt_Ways_link) 4 = .ok (.iload_n 2, 1) := by decide +kernel
theorem d_Ways_link_5 : decode (ab_bc mt_Ways_link) 5 = .ok (.iaload, 1) := by decide +kernel
theorem d_Ways_link_6 : decode (ab_bc mt_Ways_link) 6 = .ok (.istore 5, 2) := by decide +kernel
theorem d_Ways_link_8 : decode (ab_bc mt_Ways_link) 8 = .ok (.aload_n 1, 1) := by decide +kernel
theorem d_Ways_link_9 : decode (ab_bc mt_Ways_link) 9 = .ok (.getfield 54, 3) := by decide +kernel
theorem d_Ways_link_12 : decode (ab_bc mt_Ways_link) 12 = .ok (.iload_n 2, 1) := by decide +kernel
theorem d_Ways_link_13 : decode (ab_bc mt_Ways_link) 13 = .ok (.iaload, 1) := by decide +kernel
theorem d_Ways_link_14 : decode (ab_bc mt_Ways_link) 14 = .ok (.istore 6, 2) := by decide +kernel
theorem d_Ways_link_16 : decode (ab_bc mt_Ways_link) 16 = .ok (.iload_n 3, 1) := by decide +kernel
theorem d_Ways_link_17 : decode (ab_bc mt_Ways_link) 17 = .ok (.iload 4, 2) := by decide +kernel
theorem d_Ways_link_19 : decode (ab_bc mt_Ways_link) 19 = .ok (.invokestatic 28, 3) := by decide +kernel
theorem d_Ways_link_22 : decode (ab_bc mt_Ways_link) 22 = .ok (.istore 7, 2) := by decide +kernel
theorem d_Ways_link_24 : decode (ab_bc mt_Ways_link) 24 = .ok (.iload 4, 2) := by decide +kernel
theorem d_Ways_link_26 : decode (ab_bc mt_Ways_link) 26 = .ok (.iload_n 3, 1) := by decide +kernel
theorem d_Ways_link_27 : decode (ab_bc mt_Ways_link) 27 = .ok (.invokestatic 28, 3) := by decide +kernel
theorem d_Ways_link_30 : decode (ab_bc mt_Ways_link) 30 = .ok (.istore 8, 2) := by decide +kernel
theorem d_Ways_link_32 : decode (ab_bc mt_Ways_link) 32 = .ok (.aload_n 0, 1) := by decide +kernel
theorem d_Ways_link_33 : decode (ab_bc mt_Ways_link) 33 = .ok (.getfield 15, 3) := by decide +kernel
theorem d_Ways_link_36 : decode (ab_bc mt_Ways_link) 36 = .ok (.iload 7, 2) := by decide +kernel
theorem d_Ways_link_38 : decode (ab_bc mt_Ways_link) 38 = .ok (.aload_n 0, 1) := by decide +kernel
theorem d_Ways_link_39 : decode (ab_bc mt_Ways_link) 39 = .ok (.getfield 15, 3) := by decide +kernel
theorem d_Ways_link_42 : decode (ab_bc mt_Ways_link) 42 = .ok (.iload_n 3, 1) := by decide +kernel
theorem d_Ways_link_43 : decode (ab_bc mt_Ways_link) 43 = .ok (.iload 5, 2) := by decide +kernel
theorem d_Ways_link_45 : decode (ab_bc mt_Ways_link) 45 = .ok (.invokestatic 28, 3) := by decide +kernel
theorem d_Ways_link_48 : decode (ab_bc mt_Ways_link) 48 = .ok (.iaload, 1) := by decide +kernel
theorem d_Ways_link_49 : decode (ab_bc mt_Ways_link) 49 = .ok (.aload_n 1, 1) := by decide +kernel
theorem d_Ways_link_50 : decode (ab_bc mt_Ways_link) 50 = .ok (.getfield 61, 3) := by decide +kernel
theorem d_Ways_link_53 : decode (ab_bc mt_Ways_link) 53 = .ok (.iload_n 2, 1) := by decide +kernel
theorem d_Ways_link_54 : decode (ab_bc mt_Ways_link) 54 = .ok (.iaload, 1) := by decide +kernel
theorem d_Ways_link_55 : decode (ab_bc mt_Ways_link) 55 = .ok (.iadd, 1) := by decide +kernel
theorem d_Ways_link_56 : decode (ab_bc mt_Ways_link) 56 = .ok (.aload_n 0, 1) := by decide +kernel
theorem d_Ways_link_57 : decode (ab_bc mt_Ways_link) 57 = .ok (.getfield 15, 3) := by decide +kernel
theorem d_Ways_link_60 : decode (ab_bc mt_Ways_link) 60 = .ok (.iload 6, 2) := by decide +kernel
theorem d_Ways_link_62 : decode (ab_bc mt_Ways_link) 62 = .ok (.iload 4, 2) := by decide +kernel
theorem d_Ways_link_64 : decode (ab_bc mt_Ways_link) 64 = .ok (.invokestatic 28, 3) := by decide +kernel
theorem d_Ways_link_67 : decode (ab_bc mt_Ways_link) 67 = .ok (.iaload, 1) := by decide +kernel
theorem d_Ways_link_68 : decode (ab_bc mt_Ways_link) 68 = .ok (.iadd, 1) := by decide +kernel
theorem d_Ways_link_69 : decode (ab_bc mt_Ways_link) 69 = .ok (.iastore, 1) := by decide +kernel
theorem d_Ways_link_70 : decode (ab_bc mt_Ways_link) 70 = .ok (.aload_n 0, 1) := by decide +kernel
theorem d_Ways_link_71 : decode (ab_bc mt_Ways_link) 71 = .ok (.getfield 15, 3) := by decide +kernel
theorem d_Ways_link_74 : decode (ab_bc mt_Ways_link) 74 = .ok (.iload 8, 2) := by decide +kernel
theorem d_Ways_link_76 : decode (ab_bc mt_Ways_link) 76 = .ok (.aload_n 0, 1) := by decide +kernel
theorem d_Ways_link_77 : decode (ab_bc mt_Ways_link) 77 = .ok (.getfield 15, 3) := by decide +kernel
theorem d_Ways_link_80 : decode (ab_bc mt_Ways_link) 80 = .ok (.iload 7, 2) := by decide +kernel
theorem d_Ways_link_82 : decode (ab_bc mt_Ways_link) 82 = .ok (.iaload, 1) := by decide +kernel
theorem d_Ways_link_83 : decode (ab_bc mt_Ways_link) 83 = .ok (.iastore, 1) := by decide +kernel
theorem d_Ways_link_84 : decode (ab_bc mt_Ways_link) 84 = .ok (.aload_n 0, 1) := by decide +kernel
theorem d_Ways_link_85 : decode (ab_bc mt_Ways_link) 85 = .ok (.getfield 19, 3) := by decide +kernel
theorem d_Ways_link_88 : decode (ab_bc mt_Ways_link) 88 = .ok (.iload 7, 2) := by decide +kernel
theorem d_Ways_link_90 : decode (ab_bc mt_Ways_link) 90 = .ok (.aload_n 0, 1) := by decide +kernel
theorem d_Ways_link_91 : decode (ab_bc mt_Ways_link) 91 = .ok (.getfield 19, 3) := by decide +kernel
theorem d_Ways_link_94 : decode (ab_bc mt_Ways_link) 94 = .ok (.iload_n 3, 1) := by decide +kernel
theorem d_Ways_link_95 : decode (ab_bc mt_Ways_link) 95 = .ok (.iload 5, 2) := by decide +kernel
theorem d_Ways_link_97 : decode (ab_bc mt_Ways_link) 97 = .ok (.invokestatic 28, 3) := by decide +kernel
theorem d_Ways_link_100 : decode (ab_bc mt_Ways_link) 100 = .ok (.iaload, 1) := by decide +kernel
theorem d_Ways_link_101 : decode (ab_bc mt_Ways_link) 101 = .ok (.iconst 1, 1) := by decide +kernel
theorem d_Ways_link_102 : decode (ab_bc mt_Ways_link) 102 = .ok (.iadd, 1) := by decide +kernel
theorem d_Ways_link_103 : decode (ab_bc mt_Ways_link) 103 = .ok (.aload_n 0, 1) := by decide +kernel
theorem d_Ways_link_104 : decode (ab_bc mt_Ways_link) 104 = .ok (.getfield 19, 3) := by decide +kernel
theorem d_Ways_link_107 : decode (ab_bc mt_Ways_link) 107 = .ok (.iload 6, 2) := by decide +kernel
theorem d_Ways_link_109 : decode (ab_bc mt_Ways_link) 109 = .ok (.iload 4, 2) := by decide +kernel
theorem d_Ways_link_111 : decode (ab_bc mt_Ways_link) 111 = .ok (.invokestatic 28, 3) := by decide +kernel
theorem d_Ways_link_114 : decode (ab_bc mt_Ways_link) 114 = .ok (.iaload, 1) := by decide +kernel
theorem d_Ways_link_115 : decode (ab_bc mt_Ways_link) 115 = .ok (.iadd, 1) := by decide +kernel
theorem d_Ways_link_116 : decode (ab_bc mt_Ways_link) 116 = .ok (.iastore, 1) := by decide +kernel
theorem d_Ways_link_117 : decode (ab_bc mt_Ways_link) 117 = .ok (.aload_n 0, 1) := by decide +kernel
theorem d_Ways_link_118 : decode (ab_bc mt_Ways_link) 118 = .ok (.getfield 19, 3) := by decide +kernel
theorem d_Ways_link_121 : decode (ab_bc mt_Ways_link) 121 = .ok (.iload 8, 2) := by decide +kernel
theorem d_Ways_link_123 : decode (ab_bc mt_Ways_link) 123 = .ok (.aload_n 0, 1) := by decide +kernel
theorem d_Ways_link_124 : decode (ab_bc mt_Ways_link) 124 = .ok (.getfield 19, 3) := by decide +kernel
theorem d_Ways_link_127 : decode (ab_bc mt_Ways_link) 127 = .ok (.iload 7, 2) := by decide +kernel
theorem d_Ways_link_129 : decode (ab_bc mt_Ways_link) 129 = .ok (.iaload, 1) := by decide +kernel
theorem d_Ways_link_130 : decode (ab_bc mt_Ways_link) 130 = .ok (.iastore, 1) := by decide +kernel
theorem d_Ways_link_131 : decode (ab_bc mt_Ways_link) 131 = .ok (.aload_n 0, 1) := by decide +kernel
theorem d_Ways_link_132 : decode (ab_bc mt_Ways_link) 132 = .ok (.getfield 22, 3) := by decide +kernel
theorem d_Ways_link_135 : decode (ab_bc mt_Ways_link) 135 = .ok (.iload 7, 2) := by decide +kernel
theorem d_Ways_link_137 : decode (ab_bc mt_Ways_link) 137 = .ok (.iload_n 3, 1) := by decide +kernel
theorem d_Ways_link_138 : decode (ab_bc mt_Ways_link) 138 = .ok (.iload 5, 2) := by decide +kernel
theorem d_Ways_link_140 : decode (ab_bc mt_Ways_link) 140 = .ok (.if_icmp .ne 7, 3) := by decide +kernel
theorem d_Ways_link_143 : decode (ab_bc mt_Ways_link) 143 = .ok (.iload_n 2, 1) := by decide +kernel
theorem d_Ways_link_144 : decode (ab_bc mt_Ways_link) 144 = .ok (.goto 14, 3) := by decide +kernel
theorem d_Ways_link_147 : decode (ab_bc mt_Ways_link) 147 = .ok (.aload_n 0, 1) := by decide +kernel
theorem d_Ways_link_148 : decode (ab_bc mt_Ways_link) 148 = .ok (.getfield 22, 3) := by decide +kernel
theorem d_Ways_link_151 : decode (ab_bc mt_Ways_link) 151 = .ok (.iload_n 3, 1) := by decide +kernel
theorem d_Ways_link_152 : decode (ab_bc mt_Ways_link) 152 = .ok (.iload 5, 2) := by decide +kernel
theorem d_Ways_link_154 : decode (ab_bc mt_Ways_link) 154 = .ok (.invokestatic 28, 3) := by decide +kernel
theorem d_Ways_link_157 : decode (ab_bc mt_Ways_link) 157 = .ok (.iaload, 1) := by decide +kernel
theorem d_Ways_link_158 : decode (ab_bc mt_Ways_link) 158 = .ok (.iastore, 1) := by decide +kernel
theorem d_Ways_link_159 : decode (ab_bc mt_Ways_link) 159 = .ok (.aload_n 0, 1) := by decide +kernel
theorem d_Ways_link_160 : decode (ab_bc mt_Ways_link) 160 = .ok (.getfield 22, 3) := by decide +kernel
theorem d_Ways_link_163 : decode (ab_bc mt_Ways_link) 163 = .ok (.iload 8, 2) := by decide +kernel
theorem d_Ways_link_165 : decode (ab_bc mt_Ways_link) 165 = .ok (.iload 4, 2) := by decide +kernel
theorem d_Ways_link_167 : decode (ab_bc mt_Ways_link) 167 = .ok (.iload 6, 2) := by decide +kernel
theorem d_Ways_link_169 : decode (ab_bc mt_Ways_link) 169 = .ok (.if_icmp .ne 7, 3) := by decide +kernel
theorem d_Ways_link_172 : decode (ab_bc mt_Ways_link) 172 = .ok (.iload_n 2, 1) := by decide +kernel
theorem d_Ways_link_173 : decode (ab_bc mt_Ways_link) 173 = .ok (.goto 15, 3) := by decide +kernel
theorem d_Ways_link_176 : decode (ab_bc mt_Ways_link) 176 = .ok (.aload_n 0, 1) := by decide +kernel
theorem d_Ways_link_177 : decode (ab_bc mt_Ways_link) 177 = .ok (.getfield 22, 3) := by decide +kernel
theorem d_Ways_link_180 : decode (ab_bc mt_Ways_link) 180 = .ok (.iload 4, 2) := by decide +kernel
theorem d_Ways_link_182 : decode (ab_bc mt_Ways_link) 182 = .ok (.iload 6, 2) := by decide +kernel
theorem d_Ways_link_184 : decode (ab_bc mt_Ways_link) 184 = .ok (.invokestatic 28, 3) := by decide +kernel
theorem d_Ways_link_187 : decode (ab_bc mt_Ways_link) 187 = .ok (.iaload, 1) := by decide +kernel
theorem d_Ways_link_188 : decode (ab_bc mt_Ways_link) 188 = .ok (.iastore, 1) := by decide +kernel
theorem d_Ways_link_189 : decode (ab_bc mt_Ways_link) 189 = .ok (.aload_n 0, 1) := by decide +kernel
theorem d_Ways_link_190 : decode (ab_bc mt_Ways_link) 190 = .ok (.getfield 25, 3) := by decide +kernel
theorem d_Ways_link_193 : decode (ab_bc mt_Ways_link) 193 = .ok (.iload 7, 2) := by decide +kernel
theorem d_Ways_link_195 : decode (ab_bc mt_Ways_link) 195 = .ok (.iload_n 2, 1) := by decide +kernel
theorem d_Ways_link_196 : decode (ab_bc mt_Ways_link) 196 = .ok (.iastore, 1) := by decide +kernel
theorem d_Ways_link_197 : decode (ab_bc mt_Ways_link) 197 = .ok (.aload_n 0, 1) := by decide +kernel
theorem d_Ways_link_198 : decode (ab_bc mt_Ways_link) 198 = .ok (.getfield 25, 3) := by decide +kernel
theorem d_Ways_link_201 : decode (ab_bc mt_Ways_link) 201 = .ok (.iload 8, 2) := by decide +kernel
theorem d_Ways_link_203 : decode (ab_bc mt_Ways_link) 203 = .ok (.iload_n 2, 1) := by decide +kernel
theorem d_Ways_link_204 : decode (ab_bc mt_Ways_link) 204 = .ok (.iastore, 1) := by decide +kernel
theorem d_Ways_link_205 : decode (ab_bc mt_Ways_link) 205 = .ok (.return_, 1) := by decide +kernel
-- CableKeeper$Ways.link(LCableKeeper$Cables;III)V over kx_ways, kx_now_cables
theorem q_Ways_link_0 {w : ab_Wd} {d n nc ns : Nat} {I : Nat → Nat → Int32} {L : Nat → Nat → Int64} {res : ab_Re} (v2 : Int32) (v3 : Int32) (v4 : Int32) (hc : nc ≤ res.2.2.2.2.2.1) (hs : ns ≤ res.2.2.2.2.2.2)
    (h : (vp_in v2 24) ∧ ∃ (r2 : Int32), ab_C w d mt_Ways_at [.int v3, .int v4] (I, L, ab_RR, n, nc, ns) (.inl (some (.int r2)), (I, L, ab_RR, n, nc, ns)) ∧ ∃ (r3 : Int32), ab_C w d mt_Ways_at [.int v4, .int v3] (I, L, ab_RR, n, nc, ns) (.inl (some (.int r3)), (I, L, ab_RR, n, nc, ns)) ∧ ∃ (r4 : Int32), ab_C w d mt_Ways_at [.int v3, .int (I kx_now_cables_first v2.toNatClampNeg)] (I, L, ab_RR, n, nc, ns) (.inl (some (.int r4)), (I, L, ab_RR, n, nc, ns)) ∧ (vp_in r4 100) ∧ ∃ (r6 : Int32), ab_C w d mt_Ways_at [.int (I kx_now_cables_second v2.toNatClampNeg), .int v4] (I, L, ab_RR, n, nc, ns) (.inl (some (.int r6)), (I, L, ab_RR, n, nc, ns)) ∧ (vp_in r6 100) ∧ (vp_in r2 100) ∧ (vp_in r3 100) ∧ ∃ (r10 : Int32), ab_C w d mt_Ways_at [.int v3, .int (I kx_now_cables_first v2.toNatClampNeg)] ((ab_up (ab_up I kx_ways_span r2.toNatClampNeg (((I kx_ways_span r4.toNatClampNeg) + (I kx_now_cables_price v2.toNatClampNeg)) + (I kx_ways_span r6.toNatClampNeg))) kx_ways_span r3.toNatClampNeg ((ab_up I kx_ways_span r2.toNatClampNeg (((I kx_ways_span r4.toNatClampNeg) + (I kx_now_cables_price v2.toNatClampNeg)) + (I kx_ways_span r6.toNatClampNeg))) kx_ways_span r2.toNatClampNeg)), L, ab_RR, n, nc, ns) (.inl (some (.int r10)), ((ab_up (ab_up I kx_ways_span r2.toNatClampNeg (((I kx_ways_span r4.toNatClampNeg) + (I kx_now_cables_price v2.toNatClampNeg)) + (I kx_ways_span r6.toNatClampNeg))) kx_ways_span r3.toNatClampNeg ((ab_up I kx_ways_span r2.toNatClampNeg (((I kx_ways_span r4.toNatClampNeg) + (I kx_now_cables_price v2.toNatClampNeg)) + (I kx_ways_span r6.toNatClampNeg))) kx_ways_span r2.toNatClampNeg)), L, ab_RR, n, nc, ns)) ∧ (vp_in r10 100) ∧ ∃ (r12 : Int32), ab_C w d mt_Ways_at [.int (I kx_now_cables_second v2.toNatClampNeg), .int v4] ((ab_up (ab_up I kx_ways_span r2.toNatClampNeg (((I kx_ways_span r4.toNatClampNeg) + (I kx_now_cables_price v2.toNatClampNeg)) + (I kx_ways_span r6.toNatClampNeg))) kx_ways_span r3.toNatClampNeg ((ab_up I kx_ways_span r2.toNatClampNeg (((I kx_ways_span r4.toNatClampNeg) + (I kx_now_cables_price v2.toNatClampNeg)) + (I kx_ways_span r6.toNatClampNeg))) kx_ways_span r2.toNatClampNeg)), L, ab_RR, n, nc, ns) (.inl (some (.int r12)), ((ab_up (ab_up I kx_ways_span r2.toNatClampNeg (((I kx_ways_span r4.toNatClampNeg) + (I kx_now_cables_price v2.toNatClampNeg)) + (I kx_ways_span r6.toNatClampNeg))) kx_ways_span r3.toNatClampNeg ((ab_up I kx_ways_span r2.toNatClampNeg (((I kx_ways_span r4.toNatClampNeg) + (I kx_now_cables_price v2.toNatClampNeg)) + (I kx_ways_span r6.toNatClampNeg))) kx_ways_span r2.toNatClampNeg)), L, ab_RR, n, nc, ns)) ∧ (vp_in r12 100) ∧ ((¬ v3 = (I kx_now_cables_first v2.toNatClampNeg) → (∃ (r15 : Int32), ab_C w d mt_Ways_at [.int v3, .int (I kx_now_cables_first v2.toNatClampNeg)] ((ab_up (ab_up (ab_up (ab_up I kx_ways_span r2.toNatClampNeg (((I kx_ways_span r4.toNatClampNeg) + (I kx_now_cables_price v2.toNatClampNeg)) + (I kx_ways_span r6.toNatClampNeg))) kx_ways_span r3.toNatClampNeg ((ab_up I kx_ways_span r2.toNatClampNeg (((I kx_ways_span r4.toNatClampNeg) + (I kx_now_cables_price v2.toNatClampNeg)) + (I kx_ways_span r6.toNatClampNeg))) kx_ways_span r2.toNatClampNeg)) kx_ways_hops r2.toNatClampNeg (((I kx_ways_hops r10.toNatClampNeg) + 1) + (I kx_ways_hops r12.toNatClampNeg))) kx_ways_hops r3.toNatClampNeg ((ab_up (ab_up (ab_up I kx_ways_span r2.toNatClampNeg (((I kx_ways_span r4.toNatClampNeg) + (I kx_now_cables_price v2.toNatClampNeg)) + (I kx_ways_span r6.toNatClampNeg))) kx_ways_span r3.toNatClampNeg ((ab_up I kx_ways_span r2.toNatClampNeg (((I kx_ways_span r4.toNatClampNeg) + (I kx_now_cables_price v2.toNatClampNeg)) + (I kx_ways_span r6.toNatClampNeg))) kx_ways_span r2.toNatClampNeg)) kx_ways_hops r2.toNatClampNeg (((I kx_ways_hops r10.toNatClampNeg) + 1) + (I kx_ways_hops r12.toNatClampNeg))) kx_ways_hops r2.toNatClampNeg)), L, ab_RR, n, nc, ns) (.inl (some (.int r15)), ((ab_up (ab_up (ab_up (ab_up I kx_ways_span r2.toNatClampNeg (((I kx_ways_span r4.toNatClampNeg) + (I kx_now_cables_price v2.toNatClampNeg)) + (I kx_ways_span r6.toNatClampNeg))) kx_ways_span r3.toNatClampNeg ((ab_up I kx_ways_span r2.toNatClampNeg (((I kx_ways_span r4.toNatClampNeg) + (I kx_now_cables_price v2.toNatClampNeg)) + (I kx_ways_span r6.toNatClampNeg))) kx_ways_span r2.toNatClampNeg)) kx_ways_hops r2.toNatClampNeg (((I kx_ways_hops r10.toNatClampNeg) + 1) + (I kx_ways_hops r12.toNatClampNeg))) kx_ways_hops r3.toNatClampNeg ((ab_up (ab_up (ab_up I kx_ways_span r2.toNatClampNeg (((I kx_ways_span r4.toNatClampNeg) + (I kx_now_cables_price v2.toNatClampNeg)) + (I kx_ways_span r6.toNatClampNeg))) kx_ways_span r3.toNatClampNeg ((ab_up I kx_ways_span r2.toNatClampNeg (((I kx_ways_span r4.toNatClampNeg) + (I kx_now_cables_price v2.toNatClampNeg)) + (I kx_ways_span r6.toNatClampNeg))) kx_ways_span r2.toNatClampNeg)) kx_ways_hops r2.toNatClampNeg (((I kx_ways_hops r10.toNatClampNeg) + 1) + (I kx_ways_hops r12.toNatClampNeg))) kx_ways_hops r2.toNatClampNeg)), L, ab_RR, n, nc, ns)) ∧ (vp_in r15 100) ∧ ab_E w (d + 1) mt_Ways_link 158 [.ref kx_ways, .ref kx_now_cables, .int v2, .int v3, .int v4, .int (I kx_now_cables_first v2.toNatClampNeg), .int (I kx_now_cables_second v2.toNatClampNeg), .int r2, .int r3] [.int (I kx_ways_step r15.toNatClampNeg), .int r2, .ref kx_ways_step] ((ab_up (ab_up (ab_up (ab_up I kx_ways_span r2.toNatClampNeg (((I kx_ways_span r4.toNatClampNeg) + (I kx_now_cables_price v2.toNatClampNeg)) + (I kx_ways_span r6.toNatClampNeg))) kx_ways_span r3.toNatClampNeg ((ab_up I kx_ways_span r2.toNatClampNeg (((I kx_ways_span r4.toNatClampNeg) + (I kx_now_cables_price v2.toNatClampNeg)) + (I kx_ways_span r6.toNatClampNeg))) kx_ways_span r2.toNatClampNeg)) kx_ways_hops r2.toNatClampNeg (((I kx_ways_hops r10.toNatClampNeg) + 1) + (I kx_ways_hops r12.toNatClampNeg))) kx_ways_hops r3.toNatClampNeg ((ab_up (ab_up (ab_up I kx_ways_span r2.toNatClampNeg (((I kx_ways_span r4.toNatClampNeg) + (I kx_now_cables_price v2.toNatClampNeg)) + (I kx_ways_span r6.toNatClampNeg))) kx_ways_span r3.toNatClampNeg ((ab_up I kx_ways_span r2.toNatClampNeg (((I kx_ways_span r4.toNatClampNeg) + (I kx_now_cables_price v2.toNatClampNeg)) + (I kx_ways_span r6.toNatClampNeg))) kx_ways_span r2.toNatClampNeg)) kx_ways_hops r2.toNatClampNeg (((I kx_ways_hops r10.toNatClampNeg) + 1) + (I kx_ways_hops r12.toNatClampNeg))) kx_ways_hops r2.toNatClampNeg)), L, ab_RR, n, nc, ns) res)) ∧ (v3 = (I kx_now_cables_first v2.toNatClampNeg) → (ab_E w (d + 1) mt_Ways_link 158 [.ref kx_ways, .ref kx_now_cables, .int v2, .int v3, .int v4, .int (I kx_now_cables_first v2.toNatClampNeg), .int (I kx_now_cables_second v2.toNatClampNeg), .int r2, .int r3] [.int v2, .int r2, .ref kx_ways_step] ((ab_up (ab_up (ab_up (ab_up I kx_ways_span r2.toNatClampNeg (((I kx_ways_span r4.toNatClampNeg) + (I kx_now_cables_price v2.toNatClampNeg)) + (I kx_ways_span r6.toNatClampNeg))) kx_ways_span r3.toNatClampNeg ((ab_up I kx_ways_span r2.toNatClampNeg (((I kx_ways_span r4.toNatClampNeg) + (I kx_now_cables_price v2.toNatClampNeg)) + (I kx_ways_span r6.toNatClampNeg))) kx_ways_span r2.toNatClampNeg)) kx_ways_hops r2.toNatClampNeg (((I kx_ways_hops r10.toNatClampNeg) + 1) + (I kx_ways_hops r12.toNatClampNeg))) kx_ways_hops r3.toNatClampNeg ((ab_up (ab_up (ab_up I kx_ways_span r2.toNatClampNeg (((I kx_ways_span r4.toNatClampNeg) + (I kx_now_cables_price v2.toNatClampNeg)) + (I kx_ways_span r6.toNatClampNeg))) kx_ways_span r3.toNatClampNeg ((ab_up I kx_ways_span r2.toNatClampNeg (((I kx_ways_span r4.toNatClampNeg) + (I kx_now_cables_price v2.toNatClampNeg)) + (I kx_ways_span r6.toNatClampNeg))) kx_ways_span r2.toNatClampNeg)) kx_ways_hops r2.toNatClampNeg (((I kx_ways_hops r10.toNatClampNeg) + 1) + (I kx_ways_hops r12.toNatClampNeg))) kx_ways_hops r2.toNatClampNeg)), L, ab_RR, n, nc, ns) res)))) : ab_E w (d + 1) mt_Ways_link 0 [.ref kx_ways, .ref kx_now_cables, .int v2, .int v3, .int v4, .null, .null, .null, .null] [] (I, L, ab_RR, n, nc, ns) res := by
  refine ab_aload_n (i := 1) d_Ways_link_0 rfl rfl ?_
  refine ab_getR (ci := 1) (k := 3) (j := kx_now_cables_first) d_Ways_link_1 v_210 rfl (by decide) (by decide) rfl r_kx_now_cables_3 ?_
  refine ab_iload_n (i := 2) d_Ways_link_4 rfl rfl ?_
  have g1 := h.1; have h := h.2
  refine ab_iald d_Ways_link_5 rfl rfl g1 ?_
  refine ab_istore (i := 5) d_Ways_link_6 (by decide) (Or.inr rfl) ?_
  refine ab_aload_n (i := 1) d_Ways_link_8 rfl rfl ?_
  refine ab_getR (ci := 1) (k := 4) (j := kx_now_cables_second) d_Ways_link_9 v_217 rfl (by decide) (by decide) rfl r_kx_now_cables_4 ?_
  refine ab_iload_n (i := 2) d_Ways_link_12 rfl rfl ?_
  refine ab_iald d_Ways_link_13 rfl rfl g1 ?_
  refine ab_istore (i := 6) d_Ways_link_14 (by decide) (Or.inr rfl) ?_
  refine ab_iload_n (i := 3) d_Ways_link_16 rfl rfl ?_
  refine ab_iload (i := 4) d_Ways_link_17 rfl ?_
  obtain ⟨r2, hC, h⟩ := h
  refine ab_callS (me2 := mt_Ways_at) (as := [.int v3, .int v4]) (st := []) (rv := (some (.int r2))) (M2 := (I, L, ab_RR, n, nc, ns)) d_Ways_link_19 ce_Ways_at ⟨v_458, Or.inl v_457⟩ (Nat.le_of_ble_eq_true rfl) hC (Nat.le_refl _) (Nat.le_refl _) hc hs (fun j h9 => by cases h9) (fun _ _ => rfl) ?_
  show ab_E w (d + 1) mt_Ways_link 22 [.ref kx_ways, .ref kx_now_cables, .int v2, .int v3, .int v4, .int (I kx_now_cables_first v2.toNatClampNeg), .int (I kx_now_cables_second v2.toNatClampNeg), .null, .null] [.int r2] (I, L, ab_RR, n, nc, ns) res
  refine ab_istore (i := 7) d_Ways_link_22 (by decide) (Or.inr rfl) ?_
  refine ab_iload (i := 4) d_Ways_link_24 rfl ?_
  refine ab_iload_n (i := 3) d_Ways_link_26 rfl rfl ?_
  obtain ⟨r3, hC, h⟩ := h
  refine ab_callS (me2 := mt_Ways_at) (as := [.int v4, .int v3]) (st := []) (rv := (some (.int r3))) (M2 := (I, L, ab_RR, n, nc, ns)) d_Ways_link_27 ce_Ways_at ⟨v_458, Or.inl v_457⟩ (Nat.le_of_ble_eq_true rfl) hC (Nat.le_refl _) (Nat.le_refl _) hc hs (fun j h9 => by cases h9) (fun _ _ => rfl) ?_
  show ab_E w (d + 1) mt_Ways_link 30 [.ref kx_ways, .ref kx_now_cables, .int v2, .int v3, .int v4, .int (I kx_now_cables_first v2.toNatClampNeg), .int (I kx_now_cables_second v2.toNatClampNeg), .int r2, .null] [.int r3] (I, L, ab_RR, n, nc, ns) res
  refine ab_istore (i := 8) d_Ways_link_30 (by decide) (Or.inr rfl) ?_
  refine ab_aload_n (i := 0) d_Ways_link_32 rfl rfl ?_
  refine ab_getR (ci := 9) (k := 1) (j := kx_ways_span) d_Ways_link_33 v_362 rfl (by decide) (by decide) rfl r_kx_ways_1 ?_
  refine ab_iload (i := 7) d_Ways_link_36 rfl ?_
  refine ab_aload_n (i := 0) d_Ways_link_38 rfl rfl ?_
  refine ab_getR (ci := 9) (k := 1) (j := kx_ways_span) d_Ways_link_39 v_362 rfl (by decide) (by decide) rfl r_kx_ways_1 ?_
  refine ab_iload_n (i := 3) d_Ways_link_42 rfl rfl ?_
  refine ab_iload (i := 5) d_Ways_link_43 rfl ?_
  obtain ⟨r4, hC, h⟩ := h
  refine ab_callS (me2 := mt_Ways_at) (as := [.int v3, .int (I kx_now_cables_first v2.toNatClampNeg)]) (st := [.ref kx_ways_span, .int r2, .ref kx_ways_span]) (rv := (some (.int r4))) (M2 := (I, L, ab_RR, n, nc, ns)) d_Ways_link_45 ce_Ways_at ⟨v_458, Or.inl v_457⟩ (Nat.le_of_ble_eq_true rfl) hC (Nat.le_refl _) (Nat.le_refl _) hc hs (fun j h9 => by cases h9) (fun _ _ => rfl) ?_
  show ab_E w (d + 1) mt_Ways_link 48 [.ref kx_ways, .ref kx_now_cables, .int v2, .int v3, .int v4, .int (I kx_now_cables_first v2.toNatClampNeg), .int (I kx_now_cables_second v2.toNatClampNeg), .int r2, .int r3] [.int r4, .ref kx_ways_span, .int r2, .ref kx_ways_span] (I, L, ab_RR, n, nc, ns) res
  have g5 := h.1; have h := h.2
  refine ab_iald d_Ways_link_48 rfl rfl g5 ?_
  refine ab_aload_n (i := 1) d_Ways_link_49 rfl rfl ?_
  refine ab_getR (ci := 1) (k := 5) (j := kx_now_cables_price) d_Ways_link_50 v_225 rfl (by decide) (by decide) rfl r_kx_now_cables_5 ?_
  refine ab_iload_n (i := 2) d_Ways_link_53 rfl rfl ?_
  refine ab_iald d_Ways_link_54 rfl rfl g1 ?_
  refine ab_iadd d_Ways_link_55 ?_
  refine ab_aload_n (i := 0) d_Ways_link_56 rfl rfl ?_
  refine ab_getR (ci := 9) (k := 1) (j := kx_ways_span) d_Ways_link_57 v_362 rfl (by decide) (by decide) rfl r_kx_ways_1 ?_
  refine ab_iload (i := 6) d_Ways_link_60 rfl ?_
  refine ab_iload (i := 4) d_Ways_link_62 rfl ?_
  obtain ⟨r6, hC, h⟩ := h
  refine ab_callS (me2 := mt_Ways_at) (as := [.int (I kx_now_cables_second v2.toNatClampNeg), .int v4]) (st := [.ref kx_ways_span, .int ((I kx_ways_span r4.toNatClampNeg) + (I kx_now_cables_price v2.toNatClampNeg)), .int r2, .ref kx_ways_span]) (rv := (some (.int r6))) (M2 := (I, L, ab_RR, n, nc, ns)) d_Ways_link_64 ce_Ways_at ⟨v_458, Or.inl v_457⟩ (Nat.le_of_ble_eq_true rfl) hC (Nat.le_refl _) (Nat.le_refl _) hc hs (fun j h9 => by cases h9) (fun _ _ => rfl) ?_
  show ab_E w (d + 1) mt_Ways_link 67 [.ref kx_ways, .ref kx_now_cables, .int v2, .int v3, .int v4, .int (I kx_now_cables_first v2.toNatClampNeg), .int (I kx_now_cables_second v2.toNatClampNeg), .int r2, .int r3] [.int r6, .ref kx_ways_span, .int ((I kx_ways_span r4.toNatClampNeg) + (I kx_now_cables_price v2.toNatClampNeg)), .int r2, .ref kx_ways_span] (I, L, ab_RR, n, nc, ns) res
  have g7 := h.1; have h := h.2
  refine ab_iald d_Ways_link_67 rfl rfl g7 ?_
  refine ab_iadd d_Ways_link_68 ?_
  have g8 := h.1; have h := h.2
  refine ab_iast d_Ways_link_69 rfl rfl g8 ?_
  refine ab_aload_n (i := 0) d_Ways_link_70 rfl rfl ?_
  refine ab_getR (ci := 9) (k := 1) (j := kx_ways_span) d_Ways_link_71 v_362 rfl (by decide) (by decide) rfl r_kx_ways_1 ?_
  refine ab_iload (i := 8) d_Ways_link_74 rfl ?_
  refine ab_aload_n (i := 0) d_Ways_link_76 rfl rfl ?_
  refine ab_getR (ci := 9) (k := 1) (j := kx_ways_span) d_Ways_link_77 v_362 rfl (by decide) (by decide) rfl r_kx_ways_1 ?_
  refine ab_iload (i := 7) d_Ways_link_80 rfl ?_
  refine ab_iald d_Ways_link_82 rfl rfl g8 ?_
  have g9 := h.1; have h := h.2
  refine ab_iast d_Ways_link_83 rfl rfl g9 ?_
  refine ab_aload_n (i := 0) d_Ways_link_84 rfl rfl ?_
  refine ab_getR (ci := 9) (k := 2) (j := kx_ways_hops) d_Ways_link_85 v_363 rfl (by decide) (by decide) rfl r_kx_ways_2 ?_
  refine ab_iload (i := 7) d_Ways_link_88 rfl ?_
  refine ab_aload_n (i := 0) d_Ways_link_90 rfl rfl ?_
  refine ab_getR (ci := 9) (k := 2) (j := kx_ways_hops) d_Ways_link_91 v_363 rfl (by decide) (by decide) rfl r_kx_ways_2 ?_
  refine ab_iload_n (i := 3) d_Ways_link_94 rfl rfl ?_
  refine ab_iload (i := 5) d_Ways_link_95 rfl ?_
  obtain ⟨r10, hC, h⟩ := h
  refine ab_callS (me2 := mt_Ways_at) (as := [.int v3, .int (I kx_now_cables_first v2.toNatClampNeg)]) (st := [.ref kx_ways_hops, .int r2, .ref kx_ways_hops]) (rv := (some (.int r10))) (M2 := ((ab_up (ab_up I kx_ways_span r2.toNatClampNeg (((I kx_ways_span r4.toNatClampNeg) + (I kx_now_cables_price v2.toNatClampNeg)) + (I kx_ways_span r6.toNatClampNeg))) kx_ways_span r3.toNatClampNeg ((ab_up I kx_ways_span r2.toNatClampNeg (((I kx_ways_span r4.toNatClampNeg) + (I kx_now_cables_price v2.toNatClampNeg)) + (I kx_ways_span r6.toNatClampNeg))) kx_ways_span r2.toNatClampNeg)), L, ab_RR, n, nc, ns)) d_Ways_link_97 ce_Ways_at ⟨v_458, Or.inl v_457⟩ (Nat.le_of_ble_eq_true rfl) hC (Nat.le_refl _) (Nat.le_refl _) hc hs (fun j h9 => by cases h9) (fun _ _ => rfl) ?_
  show ab_E w (d + 1) mt_Ways_link 100 [.ref kx_ways, .ref kx_now_cables, .int v2, .int v3, .int v4, .int (I kx_now_cables_first v2.toNatClampNeg), .int (I kx_now_cables_second v2.toNatClampNeg), .int r2, .int r3] [.int r10, .ref kx_ways_hops, .int r2, .ref kx_ways_hops] ((ab_up (ab_up I kx_ways_span r2.toNatClampNeg (((I kx_ways_span r4.toNatClampNeg) + (I kx_now_cables_price v2.toNatClampNeg)) + (I kx_ways_span r6.toNatClampNeg))) kx_ways_span r3.toNatClampNeg ((ab_up I kx_ways_span r2.toNatClampNeg (((I kx_ways_span r4.toNatClampNeg) + (I kx_now_cables_price v2.toNatClampNeg)) + (I kx_ways_span r6.toNatClampNeg))) kx_ways_span r2.toNatClampNeg)), L, ab_RR, n, nc, ns) res
  have g11 := h.1; have h := h.2
  refine ab_iald d_Ways_link_100 rfl rfl g11 ?_
  refine ab_iconst (v := 1) d_Ways_link_101 rfl ?_
  refine ab_iadd d_Ways_link_102 ?_
  refine ab_aload_n (i := 0) d_Ways_link_103 rfl rfl ?_
  refine ab_getR (ci := 9) (k := 2) (j := kx_ways_hops) d_Ways_link_104 v_363 rfl (by decide) (by decide) rfl r_kx_ways_2 ?_
  refine ab_iload (i := 6) d_Ways_link_107 rfl ?_
  refine ab_iload (i := 4) d_Ways_link_109 rfl ?_
  obtain ⟨r12, hC, h⟩ := h
  refine ab_callS (me2 := mt_Ways_at) (as := [.int (I kx_now_cables_second v2.toNatClampNeg), .int v4]) (st := [.ref kx_ways_hops, .int ((I kx_ways_hops r10.toNatClampNeg) + 1), .int r2, .ref kx_ways_hops]) (rv := (some (.int r12))) (M2 := ((ab_up (ab_up I kx_ways_span r2.toNatClampNeg (((I kx_ways_span r4.toNatClampNeg) + (I kx_now_cables_price v2.toNatClampNeg)) + (I kx_ways_span r6.toNatClampNeg))) kx_ways_span r3.toNatClampNeg ((ab_up I kx_ways_span r2.toNatClampNeg (((I kx_ways_span r4.toNatClampNeg) + (I kx_now_cables_price v2.toNatClampNeg)) + (I kx_ways_span r6.toNatClampNeg))) kx_ways_span r2.toNatClampNeg)), L, ab_RR, n, nc, ns)) d_Ways_link_111 ce_Ways_at ⟨v_458, Or.inl v_457⟩ (Nat.le_of_ble_eq_true rfl) hC (Nat.le_refl _) (Nat.le_refl _) hc hs (fun j h9 => by cases h9) (fun _ _ => rfl) ?_
  show ab_E w (d + 1) mt_Ways_link 114 [.ref kx_ways, .ref kx_now_cables, .int v2, .int v3, .int v4, .int (I kx_now_cables_first v2.toNatClampNeg), .int (I kx_now_cables_second v2.toNatClampNeg), .int r2, .int r3] [.int r12, .ref kx_ways_hops, .int ((I kx_ways_hops r10.toNatClampNeg) + 1), .int r2, .ref kx_ways_hops] ((ab_up (ab_up I kx_ways_span r2.toNatClampNeg (((I kx_ways_span r4.toNatClampNeg) + (I kx_now_cables_price v2.toNatClampNeg)) + (I kx_ways_span r6.toNatClampNeg))) kx_ways_span r3.toNatClampNeg ((ab_up I kx_ways_span r2.toNatClampNeg (((I kx_ways_span r4.toNatClampNeg) + (I kx_now_cables_price v2.toNatClampNeg)) + (I kx_ways_span r6.toNatClampNeg))) kx_ways_span r2.toNatClampNeg)), L, ab_RR, n, nc, ns) res
  have g13 := h.1; have h := h.2
  refine ab_iald d_Ways_link_114 rfl rfl g13 ?_
  refine ab_iadd d_Ways_link_115 ?_
  refine ab_iast d_Ways_link_116 rfl rfl g8 ?_
  refine ab_aload_n (i := 0) d_Ways_link_117 rfl rfl ?_
  refine ab_getR (ci := 9) (k := 2) (j := kx_ways_hops) d_Ways_link_118 v_363 rfl (by decide) (by decide) rfl r_kx_ways_2 ?_
  refine ab_iload (i := 8) d_Ways_link_121 rfl ?_
  refine ab_aload_n (i := 0) d_Ways_link_123 rfl rfl ?_
  refine ab_getR (ci := 9) (k := 2) (j := kx_ways_hops) d_Ways_link_124 v_363 rfl (by decide) (by decide) rfl r_kx_ways_2 ?_
  refine ab_iload (i := 7) d_Ways_link_127 rfl ?_
  refine ab_iald d_Ways_link_129 rfl rfl g8 ?_
  refine ab_iast d_Ways_link_130 rfl rfl g9 ?_
  refine ab_aload_n (i := 0) d_Ways_link_131 rfl rfl ?_
  refine ab_getR (ci := 9) (k := 3) (j := kx_ways_step) d_Ways_link_132 v_364 rfl (by decide) (by decide) rfl r_kx_ways_3 ?_
  refine ab_iload (i := 7) d_Ways_link_135 rfl ?_
  refine ab_iload_n (i := 3) d_Ways_link_137 rfl rfl ?_
  refine ab_iload (i := 5) d_Ways_link_138 rfl ?_
  refine ab_icmp_ne (tgt := 147) d_Ways_link_140 (by decide) (fun c14 => ?_) (fun c14 => ?_)
  · have h := h.1 c14
    refine ab_aload_n (i := 0) d_Ways_link_147 rfl rfl ?_
    refine ab_getR (ci := 9) (k := 3) (j := kx_ways_step) d_Ways_link_148 v_364 rfl (by decide) (by decide) rfl r_kx_ways_3 ?_
    refine ab_iload_n (i := 3) d_Ways_link_151 rfl rfl ?_
    refine ab_iload (i := 5) d_Ways_link_152 rfl ?_
    obtain ⟨r15, hC, h⟩ := h
    refine ab_callS (me2 := mt_Ways_at) (as := [.int v3, .int (I kx_now_cables_first v2.toNatClampNeg)]) (st := [.ref kx_ways_step, .int r2, .ref kx_ways_step]) (rv := (some (.int r15))) (M2 := ((ab_up (ab_up (ab_up (ab_up I kx_ways_span r2.toNatClampNeg (((I kx_ways_span r4.toNatClampNeg) + (I kx_now_cables_price v2.toNatClampNeg)) + (I kx_ways_span r6.toNatClampNeg))) kx_ways_span r3.toNatClampNeg ((ab_up I kx_ways_span r2.toNatClampNeg (((I kx_ways_span r4.toNatClampNeg) + (I kx_now_cables_price v2.toNatClampNeg)) + (I kx_ways_span r6.toNatClampNeg))) kx_ways_span r2.toNatClampNeg)) kx_ways_hops r2.toNatClampNeg (((I kx_ways_hops r10.toNatClampNeg) + 1) + (I kx_ways_hops r12.toNatClampNeg))) kx_ways_hops r3.toNatClampNeg ((ab_up (ab_up (ab_up I kx_ways_span r2.toNatClampNeg (((I kx_ways_span r4.toNatClampNeg) + (I kx_now_cables_price v2.toNatClampNeg)) + (I kx_ways_span r6.toNatClampNeg))) kx_ways_span r3.toNatClampNeg ((ab_up I kx_ways_span r2.toNatClampNeg (((I kx_ways_span r4.toNatClampNeg) + (I kx_now_cables_price v2.toNatClampNeg)) + (I kx_ways_span r6.toNatClampNeg))) kx_ways_span r2.toNatClampNeg)) kx_ways_hops r2.toNatClampNeg (((I kx_ways_hops r10.toNatClampNeg) + 1) + (I kx_ways_hops r12.toNatClampNeg))) kx_ways_hops r2.toNatClampNeg)), L, ab_RR, n, nc, ns)) d_Ways_link_154 ce_Ways_at ⟨v_458, Or.inl v_457⟩ (Nat.le_of_ble_eq_true rfl) hC (Nat.le_refl _) (Nat.le_refl _) hc hs (fun j h9 => by cases h9) (fun _ _ => rfl) ?_
    show ab_E w (d + 1) mt_Ways_link 157 [.ref kx_ways, .ref kx_now_cables, .int v2, .int v3, .int v4, .int (I kx_now_cables_first v2.toNatClampNeg), .int (I kx_now_cables_second v2.toNatClampNeg), .int r2, .int r3] [.int r15, .ref kx_ways_step, .int r2, .ref kx_ways_step] ((ab_up (ab_up (ab_up (ab_up I kx_ways_span r2.toNatClampNeg (((I kx_ways_span r4.toNatClampNeg) + (I kx_now_cables_price v2.toNatClampNeg)) + (I kx_ways_span r6.toNatClampNeg))) kx_ways_span r3.toNatClampNeg ((ab_up I kx_ways_span r2.toNatClampNeg (((I kx_ways_span r4.toNatClampNeg) + (I kx_now_cables_price v2.toNatClampNeg)) + (I kx_ways_span r6.toNatClampNeg))) kx_ways_span r2.toNatClampNeg)) kx_ways_hops r2.toNatClampNeg (((I kx_ways_hops r10.toNatClampNeg) + 1) + (I kx_ways_hops r12.toNatClampNeg))) kx_ways_hops r3.toNatClampNeg ((ab_up (ab_up (ab_up I kx_ways_span r2.toNatClampNeg (((I kx_ways_span r4.toNatClampNeg) + (I kx_now_cables_price v2.toNatClampNeg)) + (I kx_ways_span r6.toNatClampNeg))) kx_ways_span r3.toNatClampNeg ((ab_up I kx_ways_span r2.toNatClampNeg (((I kx_ways_span r4.toNatClampNeg) + (I kx_now_cables_price v2.toNatClampNeg)) + (I kx_ways_span r6.toNatClampNeg))) kx_ways_span r2.toNatClampNeg)) kx_ways_hops r2.toNatClampNeg (((I kx_ways_hops r10.toNatClampNeg) + 1) + (I kx_ways_hops r12.toNatClampNeg))) kx_ways_hops r2.toNatClampNeg)), L, ab_RR, n, nc, ns) res
    have g16 := h.1; have h := h.2
    refine ab_iald d_Ways_link_157 rfl rfl g16 ?_
    exact h
  · have h := h.2 c14
    refine ab_iload_n (i := 2) d_Ways_link_143 rfl rfl ?_
    refine ab_goto (tgt := 158) d_Ways_link_144 (by decide) ?_
    exact h
theorem q_Ways_link_158 {w : ab_Wd} {d n nc ns : Nat} {I : Nat → Nat → Int32} {L : Nat → Nat → Int64} {res : ab_Re} (v2 : Int32) (v3 : Int32) (v4 : Int32) (v5 : Int32) (v6 : Int32) (v7 : Int32) (v8 : Int32) (s1 : Int32) (s2 : Int32) (hc : nc ≤ res.2.2.2.2.2.1) (hs : ns ≤ res.2.2.2.2.2.2)
    (h : (vp_in s1 100) ∧ ((¬ v4 = v6 → (∃ (r3 : Int32), ab_C w d mt_Ways_at [.int v4, .int v6] ((ab_up I kx_ways_step s1.toNatClampNeg s2), L, ab_RR, n, nc, ns) (.inl (some (.int r3)), ((ab_up I kx_ways_step s1.toNatClampNeg s2), L, ab_RR, n, nc, ns)) ∧ (vp_in r3 100) ∧ ab_E w (d + 1) mt_Ways_link 188 [.ref kx_ways, .ref kx_now_cables, .int v2, .int v3, .int v4, .int v5, .int v6, .int v7, .int v8] [.int ((ab_up I kx_ways_step s1.toNatClampNeg s2) kx_ways_step r3.toNatClampNeg), .int v8, .ref kx_ways_step] ((ab_up I kx_ways_step s1.toNatClampNeg s2), L, ab_RR, n, nc, ns) res)) ∧ (v4 = v6 → (ab_E w (d + 1) mt_Ways_link 188 [.ref kx_ways, .ref kx_now_cables, .int v2, .int v3, .int v4, .int v5, .int v6, .int v7, .int v8] [.int v2, .int v8, .ref kx_ways_step] ((ab_up I kx_ways_step s1.toNatClampNeg s2), L, ab_RR, n, nc, ns) res)))) : ab_E w (d + 1) mt_Ways_link 158 [.ref kx_ways, .ref kx_now_cables, .int v2, .int v3, .int v4, .int v5, .int v6, .int v7, .int v8] [.int s2, .int s1, .ref kx_ways_step] (I, L, ab_RR, n, nc, ns) res := by
  have g1 := h.1; have h := h.2
  refine ab_iast d_Ways_link_158 rfl rfl g1 ?_
  refine ab_aload_n (i := 0) d_Ways_link_159 rfl rfl ?_
  refine ab_getR (ci := 9) (k := 3) (j := kx_ways_step) d_Ways_link_160 v_364 rfl (by decide) (by decide) rfl r_kx_ways_3 ?_
  refine ab_iload (i := 8) d_Ways_link_163 rfl ?_
  refine ab_iload (i := 4) d_Ways_link_165 rfl ?_
  refine ab_iload (i := 6) d_Ways_link_167 rfl ?_
  refine ab_icmp_ne (tgt := 176) d_Ways_link_169 (by decide) (fun c2 => ?_) (fun c2 => ?_)
  · have h := h.1 c2
    refine ab_aload_n (i := 0) d_Ways_link_176 rfl rfl ?_
    refine ab_getR (ci := 9) (k := 3) (j := kx_ways_step) d_Ways_link_177 v_364 rfl (by decide) (by decide) rfl r_kx_ways_3 ?_
    refine ab_iload (i := 4) d_Ways_link_180 rfl ?_
    refine ab_iload (i := 6) d_Ways_link_182 rfl ?_
    obtain ⟨r3, hC, h⟩ := h
    refine ab_callS (me2 := mt_Ways_at) (as := [.int v4, .int v6]) (st := [.ref kx_ways_step, .int v8, .ref kx_ways_step]) (rv := (some (.int r3))) (M2 := ((ab_up I kx_ways_step s1.toNatClampNeg s2), L, ab_RR, n, nc, ns)) d_Ways_link_184 ce_Ways_at ⟨v_458, Or.inl v_457⟩ (Nat.le_of_ble_eq_true rfl) hC (Nat.le_refl _) (Nat.le_refl _) hc hs (fun j h9 => by cases h9) (fun _ _ => rfl) ?_
    show ab_E w (d + 1) mt_Ways_link 187 [.ref kx_ways, .ref kx_now_cables, .int v2, .int v3, .int v4, .int v5, .int v6, .int v7, .int v8] [.int r3, .ref kx_ways_step, .int v8, .ref kx_ways_step] ((ab_up I kx_ways_step s1.toNatClampNeg s2), L, ab_RR, n, nc, ns) res
    have g4 := h.1; have h := h.2
    refine ab_iald d_Ways_link_187 rfl rfl g4 ?_
    exact h
  · have h := h.2 c2
    refine ab_iload_n (i := 2) d_Ways_link_172 rfl rfl ?_
    refine ab_goto (tgt := 188) d_Ways_link_173 (by decide) ?_
    exact h
theorem q_Ways_link_188 {w : ab_Wd} {d n nc ns : Nat} {I : Nat → Nat → Int32} {L : Nat → Nat → Int64} {res : ab_Re} (v2 : Int32) (v3 : Int32) (v4 : Int32) (v5 : Int32) (v6 : Int32) (v7 : Int32) (v8 : Int32) (s1 : Int32) (s2 : Int32) (hc : nc ≤ res.2.2.2.2.2.1) (hs : ns ≤ res.2.2.2.2.2.2)
    (h : (vp_in s1 100) ∧ (vp_in v7 100) ∧ (vp_in v8 100) ∧ res = (.inl none, ((ab_up (ab_up (ab_up I kx_ways_step s1.toNatClampNeg s2) kx_ways_dearest v7.toNatClampNeg v2) kx_ways_dearest v8.toNatClampNeg v2), L, ab_RR, n, nc, ns))) : ab_E w (d + 1) mt_Ways_link 188 [.ref kx_ways, .ref kx_now_cables, .int v2, .int v3, .int v4, .int v5, .int v6, .int v7, .int v8] [.int s2, .int s1, .ref kx_ways_step] (I, L, ab_RR, n, nc, ns) res := by
  have g1 := h.1; have h := h.2
  refine ab_iast d_Ways_link_188 rfl rfl g1 ?_
  refine ab_aload_n (i := 0) d_Ways_link_189 rfl rfl ?_
  refine ab_getR (ci := 9) (k := 4) (j := kx_ways_dearest) d_Ways_link_190 v_365 rfl (by decide) (by decide) rfl r_kx_ways_4 ?_
  refine ab_iload (i := 7) d_Ways_link_193 rfl ?_
  refine ab_iload_n (i := 2) d_Ways_link_195 rfl rfl ?_
  have g2 := h.1; have h := h.2
  refine ab_iast d_Ways_link_196 rfl rfl g2 ?_
  refine ab_aload_n (i := 0) d_Ways_link_197 rfl rfl ?_
  refine ab_getR (ci := 9) (k := 4) (j := kx_ways_dearest) d_Ways_link_198 v_365 rfl (by decide) (by decide) rfl r_kx_ways_4 ?_
  refine ab_iload (i := 8) d_Ways_link_201 rfl ?_
  refine ab_iload_n (i := 2) d_Ways_link_203 rfl rfl ?_
  have g3 := h.1; have h := h.2
  refine ab_iast d_Ways_link_204 rfl rfl g3 ?_
  exact ab_vret d_Ways_link_205 rfl h
