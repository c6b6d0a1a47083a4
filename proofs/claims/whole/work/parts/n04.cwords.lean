/-! CONSTRUCTORS: words, methods, decodes -/
def mt_K_init : ab_Me := (⟨"CableKeeper", "<init>", "()V"⟩, prog_1_method_1_code, 1, none)
def mt_State_init : ab_Me := (⟨"CableKeeper$State", "<init>", "()V"⟩, prog_8_method_1_code, 1, none)
def mt_Cables_init : ab_Me := (⟨"CableKeeper$Cables", "<init>", "()V"⟩, prog_3_method_1_code, 1, none)
def mt_Swaps_init : ab_Me := (⟨"CableKeeper$Swaps", "<init>", "()V"⟩, prog_9_method_1_code, 1, none)
def mt_Acts_init : ab_Me := (⟨"CableKeeper$Acts", "<init>", "()V"⟩, prog_2_method_1_code, 1, none)
def mt_Forest_init : ab_Me := (⟨"CableKeeper$Forest", "<init>", "()V"⟩, prog_4_method_1_code, 1, none)
def mt_Ways_init : ab_Me := (⟨"CableKeeper$Ways", "<init>", "()V"⟩, prog_11_method_1_code, 1, none)
def mt_Roads_init : ab_Me := (⟨"CableKeeper$Roads", "<init>", "()V"⟩, prog_7_method_1_code, 1, none)
def mt_Likes_init : ab_Me := (⟨"CableKeeper$Likes", "<init>", "()V"⟩, prog_5_method_1_code, 1, none)
def mt_Teller_init : ab_Me := (⟨"CableKeeper$Teller", "<init>", "()V"⟩, prog_10_method_1_code, 1, none)
def mt_M_init : ab_Me := (⟨"CableKeeperModel", "<init>", "()V"⟩, prog_13_method_1_code, 1, none)
theorem v_169 : (Cond.code ({ cls := "CableKeeper", name := "<init>", desc := "()V" } : MethodName) prog_1_method_1_code (1 : Nat) (Option.none : Option FieldType)) ∈ ab_T := ab_mg (ab_lw1 30 rfl) (by decide +kernel)
theorem v_170 : (Cond.methodLink "CableKeeper" (1 : Nat) ({ cls := "java/lang/Object", name := "<init>", desc := "()V" } : MethodName)) ∈ ab_T := ab_mg (ab_lw1 31 rfl) (by decide +kernel)
theorem v_171 : (Cond.instanceMethod ({ cls := "java/lang/Object", name := "<init>", desc := "()V" } : MethodName)) ∈ ab_T := ab_mg (ab_lw1 32 rfl) (by decide +kernel)
theorem v_172 : (Cond.code ({ cls := "java/lang/Object", name := "<init>", desc := "()V" } : MethodName) object_method_1_code (1 : Nat) (Option.none : Option FieldType)) ∈ ab_T := ab_mg (ab_lw1 33 rfl) (by decide +kernel)
theorem v_173 : (Cond.classLink "CableKeeper" (20 : Nat) "CableKeeper$State") ∈ ab_T := ab_mg (ab_lw1 34 rfl) (by decide +kernel)
theorem v_174 : (Cond.instantiable "CableKeeper$State" (7 : Nat)) ∈ ab_T := ab_mg (ab_lw1 35 rfl) (by decide +kernel)
theorem v_176 : (Cond.instanceMethod ({ cls := "CableKeeper$State", name := "<init>", desc := "()V" } : MethodName)) ∈ ab_T := ab_mg (ab_lw1 37 rfl) (by decide +kernel)
theorem v_177 : (Cond.code ({ cls := "CableKeeper$State", name := "<init>", desc := "()V" } : MethodName) prog_8_method_1_code (1 : Nat) (Option.none : Option FieldType)) ∈ ab_T := ab_mg (ab_lw1 38 rfl) (by decide +kernel)
theorem v_178 : (Cond.methodLink "CableKeeper$State" (1 : Nat) ({ cls := "java/lang/Object", name := "<init>", desc := "()V" } : MethodName)) ∈ ab_T := ab_mg (ab_lw1 39 rfl) (by decide +kernel)
theorem v_179 : (Cond.classLink "CableKeeper$State" (7 : Nat) "CableKeeper$Cables") ∈ ab_T := ab_mg (ab_lw1 40 rfl) (by decide +kernel)
theorem v_180 : (Cond.instantiable "CableKeeper$Cables" (8 : Nat)) ∈ ab_T := ab_mg (ab_lw1 41 rfl) (by decide +kernel)
theorem v_182 : (Cond.instanceMethod ({ cls := "CableKeeper$Cables", name := "<init>", desc := "()V" } : MethodName)) ∈ ab_T := ab_mg (ab_lw1 43 rfl) (by decide +kernel)
theorem v_183 : (Cond.code ({ cls := "CableKeeper$Cables", name := "<init>", desc := "()V" } : MethodName) prog_3_method_1_code (1 : Nat) (Option.none : Option FieldType)) ∈ ab_T := ab_mg (ab_lw1 44 rfl) (by decide +kernel)
theorem v_184 : (Cond.methodLink "CableKeeper$Cables" (3 : Nat) ({ cls := "java/lang/Object", name := "<init>", desc := "()V" } : MethodName)) ∈ ab_T := ab_mg (ab_lw1 45 rfl) (by decide +kernel)
theorem v_250 : (Cond.arrayClass FieldType.byte) ∈ ab_T := ab_mg (ab_lw1 111 rfl) (by decide +kernel)
theorem v_251 : (Cond.arrayClass FieldType.int) ∈ ab_T := ab_mg (ab_lw1 112 rfl) (by decide +kernel)
theorem v_252 : (Cond.classLink "CableKeeper$State" (16 : Nat) "CableKeeper$Swaps") ∈ ab_T := ab_mg (ab_lw1 113 rfl) (by decide +kernel)
theorem v_253 : (Cond.instantiable "CableKeeper$Swaps" (2 : Nat)) ∈ ab_T := ab_mg (ab_lw1 114 rfl) (by decide +kernel)
theorem v_255 : (Cond.instanceMethod ({ cls := "CableKeeper$Swaps", name := "<init>", desc := "()V" } : MethodName)) ∈ ab_T := ab_mg (ab_lw1 116 rfl) (by decide +kernel)
theorem v_256 : (Cond.code ({ cls := "CableKeeper$Swaps", name := "<init>", desc := "()V" } : MethodName) prog_9_method_1_code (1 : Nat) (Option.none : Option FieldType)) ∈ ab_T := ab_mg (ab_lw1 117 rfl) (by decide +kernel)
theorem v_257 : (Cond.methodLink "CableKeeper$Swaps" (1 : Nat) ({ cls := "java/lang/Object", name := "<init>", desc := "()V" } : MethodName)) ∈ ab_T := ab_mg (ab_lw1 118 rfl) (by decide +kernel)
theorem v_267 : (Cond.classLink "CableKeeper$State" (23 : Nat) "CableKeeper$Acts") ∈ ab_T := ab_mg (ab_lw1 128 rfl) (by decide +kernel)
theorem v_268 : (Cond.instantiable "CableKeeper$Acts" (6 : Nat)) ∈ ab_T := ab_mg (ab_lw1 129 rfl) (by decide +kernel)
theorem v_270 : (Cond.instanceMethod ({ cls := "CableKeeper$Acts", name := "<init>", desc := "()V" } : MethodName)) ∈ ab_T := ab_mg (ab_lw1 131 rfl) (by decide +kernel)
theorem v_271 : (Cond.code ({ cls := "CableKeeper$Acts", name := "<init>", desc := "()V" } : MethodName) prog_2_method_1_code (1 : Nat) (Option.none : Option FieldType)) ∈ ab_T := ab_mg (ab_lw1 132 rfl) (by decide +kernel)
theorem v_272 : (Cond.methodLink "CableKeeper$Acts" (3 : Nat) ({ cls := "java/lang/Object", name := "<init>", desc := "()V" } : MethodName)) ∈ ab_T := ab_mg (ab_lw1 133 rfl) (by decide +kernel)
theorem v_322 : (Cond.classLink "CableKeeper" (34 : Nat) "CableKeeper$Forest") ∈ ab_T := ab_mg (ab_lw1 183 rfl) (by decide +kernel)
theorem v_323 : (Cond.instantiable "CableKeeper$Forest" (6 : Nat)) ∈ ab_T := ab_mg (ab_lw1 184 rfl) (by decide +kernel)
theorem v_325 : (Cond.instanceMethod ({ cls := "CableKeeper$Forest", name := "<init>", desc := "()V" } : MethodName)) ∈ ab_T := ab_mg (ab_lw1 186 rfl) (by decide +kernel)
theorem v_326 : (Cond.code ({ cls := "CableKeeper$Forest", name := "<init>", desc := "()V" } : MethodName) prog_4_method_1_code (1 : Nat) (Option.none : Option FieldType)) ∈ ab_T := ab_mg (ab_lw1 187 rfl) (by decide +kernel)
theorem v_327 : (Cond.methodLink "CableKeeper$Forest" (3 : Nat) ({ cls := "java/lang/Object", name := "<init>", desc := "()V" } : MethodName)) ∈ ab_T := ab_mg (ab_lw1 188 rfl) (by decide +kernel)
theorem v_355 : (Cond.classLink "CableKeeper" (41 : Nat) "CableKeeper$Ways") ∈ ab_T := ab_mg (ab_lw1 216 rfl) (by decide +kernel)
theorem v_356 : (Cond.instantiable "CableKeeper$Ways" (5 : Nat)) ∈ ab_T := ab_mg (ab_lw1 217 rfl) (by decide +kernel)
theorem v_358 : (Cond.instanceMethod ({ cls := "CableKeeper$Ways", name := "<init>", desc := "()V" } : MethodName)) ∈ ab_T := ab_mg (ab_lw1 219 rfl) (by decide +kernel)
theorem v_359 : (Cond.code ({ cls := "CableKeeper$Ways", name := "<init>", desc := "()V" } : MethodName) prog_11_method_1_code (1 : Nat) (Option.none : Option FieldType)) ∈ ab_T := ab_mg (ab_lw1 220 rfl) (by decide +kernel)
theorem v_360 : (Cond.methodLink "CableKeeper$Ways" (3 : Nat) ({ cls := "java/lang/Object", name := "<init>", desc := "()V" } : MethodName)) ∈ ab_T := ab_mg (ab_lw1 221 rfl) (by decide +kernel)
theorem v_377 : (Cond.classLink "CableKeeper" (48 : Nat) "CableKeeper$Cables") ∈ ab_T := ab_mg (ab_lw1 238 rfl) (by decide +kernel)
theorem v_379 : (Cond.classLink "CableKeeper" (62 : Nat) "CableKeeper$Roads") ∈ ab_T := ab_mg (ab_lw2 0 rfl) (by decide +kernel)
theorem v_380 : (Cond.instantiable "CableKeeper$Roads" (5 : Nat)) ∈ ab_T := ab_mg (ab_lw2 1 rfl) (by decide +kernel)
theorem v_382 : (Cond.instanceMethod ({ cls := "CableKeeper$Roads", name := "<init>", desc := "()V" } : MethodName)) ∈ ab_T := ab_mg (ab_lw2 3 rfl) (by decide +kernel)
theorem v_383 : (Cond.code ({ cls := "CableKeeper$Roads", name := "<init>", desc := "()V" } : MethodName) prog_7_method_1_code (1 : Nat) (Option.none : Option FieldType)) ∈ ab_T := ab_mg (ab_lw2 4 rfl) (by decide +kernel)
theorem v_384 : (Cond.methodLink "CableKeeper$Roads" (3 : Nat) ({ cls := "java/lang/Object", name := "<init>", desc := "()V" } : MethodName)) ∈ ab_T := ab_mg (ab_lw2 5 rfl) (by decide +kernel)
theorem v_401 : (Cond.classLink "CableKeeper" (69 : Nat) "CableKeeper$Likes") ∈ ab_T := ab_mg (ab_lw2 22 rfl) (by decide +kernel)
theorem v_402 : (Cond.instantiable "CableKeeper$Likes" (4 : Nat)) ∈ ab_T := ab_mg (ab_lw2 23 rfl) (by decide +kernel)
theorem v_404 : (Cond.instanceMethod ({ cls := "CableKeeper$Likes", name := "<init>", desc := "()V" } : MethodName)) ∈ ab_T := ab_mg (ab_lw2 25 rfl) (by decide +kernel)
theorem v_405 : (Cond.code ({ cls := "CableKeeper$Likes", name := "<init>", desc := "()V" } : MethodName) prog_5_method_1_code (1 : Nat) (Option.none : Option FieldType)) ∈ ab_T := ab_mg (ab_lw2 26 rfl) (by decide +kernel)
theorem v_406 : (Cond.methodLink "CableKeeper$Likes" (3 : Nat) ({ cls := "java/lang/Object", name := "<init>", desc := "()V" } : MethodName)) ∈ ab_T := ab_mg (ab_lw2 27 rfl) (by decide +kernel)
theorem v_420 : (Cond.arrayClass FieldType.long) ∈ ab_T := ab_mg (ab_lw2 41 rfl) (by decide +kernel)
theorem v_421 : (Cond.classLink "CableKeeper" (76 : Nat) "CableKeeper$Teller") ∈ ab_T := ab_mg (ab_lw2 42 rfl) (by decide +kernel)
theorem v_422 : (Cond.instantiable "CableKeeper$Teller" (2 : Nat)) ∈ ab_T := ab_mg (ab_lw2 43 rfl) (by decide +kernel)
theorem v_424 : (Cond.instanceMethod ({ cls := "CableKeeper$Teller", name := "<init>", desc := "()V" } : MethodName)) ∈ ab_T := ab_mg (ab_lw2 45 rfl) (by decide +kernel)
theorem v_425 : (Cond.code ({ cls := "CableKeeper$Teller", name := "<init>", desc := "()V" } : MethodName) prog_10_method_1_code (1 : Nat) (Option.none : Option FieldType)) ∈ ab_T := ab_mg (ab_lw2 46 rfl) (by decide +kernel)
theorem v_426 : (Cond.methodLink "CableKeeper$Teller" (3 : Nat) ({ cls := "java/lang/Object", name := "<init>", desc := "()V" } : MethodName)) ∈ ab_T := ab_mg (ab_lw2 47 rfl) (by decide +kernel)
theorem v_766 : (Cond.methodLink "CableKeeper$Reader" (3 : Nat) ({ cls := "java/lang/Object", name := "<init>", desc := "()V" } : MethodName)) ∈ ab_T := ab_mg (ab_lw3 147 rfl) (by decide +kernel)
theorem v_1361 : (Cond.code ({ cls := "CableKeeperModel", name := "<init>", desc := "()V" } : MethodName) prog_13_method_1_code (1 : Nat) (Option.none : Option FieldType)) ∈ ab_T := ab_mg (ab_lw6 22 rfl) (by decide +kernel)
theorem v_1362 : (Cond.methodLink "CableKeeperModel" (1 : Nat) ({ cls := "java/lang/Object", name := "<init>", desc := "()V" } : MethodName)) ∈ ab_T := ab_mg (ab_lw6 23 rfl) (by decide +kernel)
theorem v_1363 : (Cond.classLink "CableKeeperModel" (7 : Nat) "java/lang/String") ∈ ab_T := ab_mg (ab_lw6 24 rfl) (by decide +kernel)
theorem v_1549 : (Cond.arrayClass FieldType.boolean) ∈ ab_T := ab_mg (ab_lw6 210 rfl) (by decide +kernel)
theorem u_175 : (Cond.methodLinkNest "CableKeeper" (22 : Nat) ({ cls := "CableKeeper$State", name := "<init>", desc := "()V" } : MethodName) "CableKeeper") ∈ lw_tbl := ab_lw1 36 rfl
theorem u_181 : (Cond.methodLinkNest "CableKeeper$State" (9 : Nat) ({ cls := "CableKeeper$Cables", name := "<init>", desc := "()V" } : MethodName) "CableKeeper") ∈ lw_tbl := ab_lw1 42 rfl
theorem u_254 : (Cond.methodLinkNest "CableKeeper$State" (18 : Nat) ({ cls := "CableKeeper$Swaps", name := "<init>", desc := "()V" } : MethodName) "CableKeeper") ∈ lw_tbl := ab_lw1 115 rfl
theorem u_269 : (Cond.methodLinkNest "CableKeeper$State" (25 : Nat) ({ cls := "CableKeeper$Acts", name := "<init>", desc := "()V" } : MethodName) "CableKeeper") ∈ lw_tbl := ab_lw1 130 rfl
theorem u_324 : (Cond.methodLinkNest "CableKeeper" (36 : Nat) ({ cls := "CableKeeper$Forest", name := "<init>", desc := "()V" } : MethodName) "CableKeeper") ∈ lw_tbl := ab_lw1 185 rfl
theorem u_357 : (Cond.methodLinkNest "CableKeeper" (43 : Nat) ({ cls := "CableKeeper$Ways", name := "<init>", desc := "()V" } : MethodName) "CableKeeper") ∈ lw_tbl := ab_lw1 218 rfl
theorem u_378 : (Cond.methodLinkNest "CableKeeper" (50 : Nat) ({ cls := "CableKeeper$Cables", name := "<init>", desc := "()V" } : MethodName) "CableKeeper") ∈ lw_tbl := ab_lw1 239 rfl
theorem u_381 : (Cond.methodLinkNest "CableKeeper" (64 : Nat) ({ cls := "CableKeeper$Roads", name := "<init>", desc := "()V" } : MethodName) "CableKeeper") ∈ lw_tbl := ab_lw2 2 rfl
theorem u_403 : (Cond.methodLinkNest "CableKeeper" (71 : Nat) ({ cls := "CableKeeper$Likes", name := "<init>", desc := "()V" } : MethodName) "CableKeeper") ∈ lw_tbl := ab_lw2 24 rfl
theorem u_423 : (Cond.methodLinkNest "CableKeeper" (78 : Nat) ({ cls := "CableKeeper$Teller", name := "<init>", desc := "()V" } : MethodName) "CableKeeper") ∈ lw_tbl := ab_lw2 44 rfl
theorem ce_Cables_init : ab_Ce mt_Cables_init 0 := ⟨v_183, v_142, ⟨by decide, by decide, by decide +kernel⟩, by decide⟩
theorem ce_Swaps_init : ab_Ce mt_Swaps_init 0 := ⟨v_256, v_143, ⟨by decide, by decide, by decide +kernel⟩, by decide⟩
theorem ce_Acts_init : ab_Ce mt_Acts_init 0 := ⟨v_271, v_144, ⟨by decide, by decide, by decide +kernel⟩, by decide⟩
theorem ce_State_init : ab_Ce mt_State_init 0 := ⟨v_177, v_141, ⟨by decide, by decide, by decide +kernel⟩, by decide⟩
theorem ce_Forest_init : ab_Ce mt_Forest_init 0 := ⟨v_326, v_145, ⟨by decide, by decide, by decide +kernel⟩, by decide⟩
theorem ce_Ways_init : ab_Ce mt_Ways_init 0 := ⟨v_359, v_146, ⟨by decide, by decide, by decide +kernel⟩, by decide⟩
theorem ce_Roads_init : ab_Ce mt_Roads_init 0 := ⟨v_383, v_147, ⟨by decide, by decide, by decide +kernel⟩, by decide⟩
theorem ce_Likes_init : ab_Ce mt_Likes_init 0 := ⟨v_405, v_148, ⟨by decide, by decide, by decide +kernel⟩, by decide⟩
theorem ce_Teller_init : ab_Ce mt_Teller_init 0 := ⟨v_425, v_149, ⟨by decide, by decide, by decide +kernel⟩, by decide⟩
theorem ce_K_init : ab_Ce mt_K_init 0 := ⟨v_169, v_140, ⟨by decide, by decide, by decide +kernel⟩, by decide⟩
theorem ce_M_init : ab_Ce mt_M_init 0 := ⟨v_1361, v_151, ⟨by decide, by decide, by decide +kernel⟩, by decide⟩
theorem d_K_init_0 : decode (ab_bc mt_K_init) 0 = .ok (.aload_n 0, 1) := by decide +kernel
theorem d_K_init_1 : decode (ab_bc mt_K_init) 1 = .ok (.invokespecial 1, 3) := by decide +kernel
theorem d_K_init_4 : decode (ab_bc mt_K_init) 4 = .ok (.aload_n 0, 1) := by decide +kernel
theorem d_K_init_5 : decode (ab_bc mt_K_init) 5 = .ok (.sipush 700, 3) := by decide +kernel
theorem d_K_init_8 : decode (ab_bc mt_K_init) 8 = .ok (.newarray .byte, 2) := by decide +kernel
theorem d_K_init_10 : decode (ab_bc mt_K_init) 10 = .ok (.putfield 9, 3) := by decide +kernel
theorem d_K_init_13 : decode (ab_bc mt_K_init) 13 = .ok (.aload_n 0, 1) := by decide +kernel
theorem d_K_init_14 : decode (ab_bc mt_K_init) 14 = .ok (.iconst 0, 1) := by decide +kernel
theorem d_K_init_15 : decode (ab_bc mt_K_init) 15 = .ok (.putfield 13, 3) := by decide +kernel
theorem d_K_init_18 : decode (ab_bc mt_K_init) 18 = .ok (.aload_n 0, 1) := by decide +kernel
theorem d_K_init_19 : decode (ab_bc mt_K_init) 19 = .ok (.iconst (-1), 1) := by decide +kernel
theorem d_K_init_20 : decode (ab_bc mt_K_init) 20 = .ok (.putfield 17, 3) := by decide +kernel
theorem d_K_init_23 : decode (ab_bc mt_K_init) 23 = .ok (.aload_n 0, 1) := by decide +kernel
theorem d_K_init_24 : decode (ab_bc mt_K_init) 24 = .ok (.new 20, 3) := by decide +kernel
theorem d_K_init_27 : decode (ab_bc mt_K_init) 27 = .ok (.dup, 1) := by decide +kernel
theorem d_K_init_28 : decode (ab_bc mt_K_init) 28 = .ok (.invokespecial 22, 3) := by decide +kernel
theorem d_K_init_31 : decode (ab_bc mt_K_init) 31 = .ok (.putfield 23, 3) := by decide +kernel
theorem d_K_init_34 : decode (ab_bc mt_K_init) 34 = .ok (.aload_n 0, 1) := by decide +kernel
theorem d_K_init_35 : decode (ab_bc mt_K_init) 35 = .ok (.new 20, 3) := by decide +kernel
theorem d_K_init_38 : decode (ab_bc mt_K_init) 38 = .ok (.dup, 1) := by decide +kernel
theorem d_K_init_39 : decode (ab_bc mt_K_init) 39 = .ok (.invokespecial 22, 3) := by decide +kernel
theorem d_K_init_42 : decode (ab_bc mt_K_init) 42 = .ok (.putfield 27, 3) := by decide +kernel
theorem d_K_init_45 : decode (ab_bc mt_K_init) 45 = .ok (.aload_n 0, 1) := by decide +kernel
theorem d_K_init_46 : decode (ab_bc mt_K_init) 46 = .ok (.iconst 0, 1) := by decide +kernel
theorem d_K_init_47 : decode (ab_bc mt_K_init) 47 = .ok (.putfield 30, 3) := by decide +kernel
theorem d_K_init_50 : decode (ab_bc mt_K_init) 50 = .ok (.aload_n 0, 1) := by decide +kernel
theorem d_K_init_51 : decode (ab_bc mt_K_init) 51 = .ok (.new 34, 3) := by decide +kernel
theorem d_K_init_54 : decode (ab_bc mt_K_init) 54 = .ok (.dup, 1) := by decide +kernel
theorem d_K_init_55 : decode (ab_bc mt_K_init) 55 = .ok (.invokespecial 36, 3) := by decide +kernel
theorem d_K_init_58 : decode (ab_bc mt_K_init) 58 = .ok (.putfield 37, 3) := by decide +kernel
theorem d_K_init_61 : decode (ab_bc mt_K_init) 61 = .ok (.aload_n 0, 1) := by decide +kernel
theorem d_K_init_62 : decode (ab_bc mt_K_init) 62 = .ok (.new 41, 3) := by decide +kernel
theorem d_K_init_65 : decode (ab_bc mt_K_init) 65 = .ok (.dup, 1) := by decide +kernel
theorem d_K_init_66 : decode (ab_bc mt_K_init) 66 = .ok (.invokespecial 43, 3) := by decide +kernel
theorem d_K_init_69 : decode (ab_bc mt_K_init) 69 = .ok (.putfield 44, 3) := by decide +kernel
theorem d_K_init_72 : decode (ab_bc mt_K_init) 72 = .ok (.aload_n 0, 1) := by decide +kernel
theorem d_K_init_73 : decode (ab_bc mt_K_init) 73 = .ok (.new 48, 3) := by decide +kernel
theorem d_K_init_76 : decode (ab_bc mt_K_init) 76 = .ok (.dup, 1) := by decide +kernel
theorem d_K_init_77 : decode (ab_bc mt_K_init) 77 = .ok (.invokespecial 50, 3) := by decide +kernel
theorem d_K_init_80 : decode (ab_bc mt_K_init) 80 = .ok (.putfield 51, 3) := by decide +kernel
theorem d_K_init_83 : decode (ab_bc mt_K_init) 83 = .ok (.aload_n 0, 1) := by decide +kernel
theorem d_K_init_84 : decode (ab_bc mt_K_init) 84 = .ok (.new 34, 3) := by decide +kernel
theorem d_K_init_87 : decode (ab_bc mt_K_init) 87 = .ok (.dup, 1) := by decide +kernel
theorem d_K_init_88 : decode (ab_bc mt_K_init) 88 = .ok (.invokespecial 36, 3) := by decide +kernel
theorem d_K_init_91 : decode (ab_bc mt_K_init) 91 = .ok (.putfield 55, 3) := by decide +kernel
theorem d_K_init_94 : decode (ab_bc mt_K_init) 94 = .ok (.aload_n 0, 1) := by decide +kernel
theorem d_K_init_95 : decode (ab_bc mt_K_init) 95 = .ok (.bipush 24, 2) := by decide +kernel
theorem d_K_init_97 : decode (ab_bc mt_K_init) 97 = .ok (.newarray .int, 2) := by decide +kernel
theorem d_K_init_99 : decode (ab_bc mt_K_init) 99 = .ok (.putfield 58, 3) := by decide +kernel
theorem d_K_init_102 : decode (ab_bc mt_K_init) 102 = .ok (.aload_n 0, 1) := by decide +kernel
theorem d_K_init_103 : decode (ab_bc mt_K_init) 103 = .ok (.new 62, 3) := by decide +kernel
theorem d_K_init_106 : decode (ab_bc mt_K_init) 106 = .ok (.dup, 1) := by decide +kernel
theorem d_K_init_107 : decode (ab_bc mt_K_init) 107 = .ok (.invokespecial 64, 3) := by decide +kernel
theorem d_K_init_110 : decode (ab_bc mt_K_init) 110 = .ok (.putfield 65, 3) := by decide +kernel
theorem d_K_init_113 : decode (ab_bc mt_K_init) 113 = .ok (.aload_n 0, 1) := by decide +kernel
theorem d_K_init_114 : decode (ab_bc mt_K_init) 114 = .ok (.new 69, 3) := by decide +kernel
theorem d_K_init_117 : decode (ab_bc mt_K_init) 117 = .ok (.dup, 1) := by decide +kernel
theorem d_K_init_118 : decode (ab_bc mt_K_init) 118 = .ok (.invokespecial 71, 3) := by decide +kernel
theorem d_K_init_121 : decode (ab_bc mt_K_init) 121 = .ok (.putfield 72, 3) := by decide +kernel
theorem d_K_init_124 : decode (ab_bc mt_K_init) 124 = .ok (.aload_n 0, 1) := by decide +kernel
theorem d_K_init_125 : decode (ab_bc mt_K_init) 125 = .ok (.new 76, 3) := by decide +kernel
theorem d_K_init_128 : decode (ab_bc mt_K_init) 128 = .ok (.dup, 1) := by decide +kernel
theorem d_K_init_129 : decode (ab_bc mt_K_init) 129 = .ok (.invokespecial 78, 3) := by decide +kernel
theorem d_K_init_132 : decode (ab_bc mt_K_init) 132 = .ok (.putfield 79, 3) := by decide +kernel
theorem d_K_init_135 : decode (ab_bc mt_K_init) 135 = .ok (.aload_n 0, 1) := by decide +kernel
theorem d_K_init_136 : decode (ab_bc mt_K_init) 136 = .ok (.invokevirtual 83, 3) := by decide +kernel
theorem d_K_init_139 : decode (ab_bc mt_K_init) 139 = .ok (.return_, 1) := by decide +kernel
theorem d_State_init_0 : decode (ab_bc mt_State_init) 0 = .ok (.aload_n 0, 1) := by decide +kernel
theorem d_State_init_1 : decode (ab_bc mt_State_init) 1 = .ok (.invokespecial 1, 3) := by decide +kernel
theorem d_State_init_4 : decode (ab_bc mt_State_init) 4 = .ok (.aload_n 0, 1) := by decide +kernel
theorem d_State_init_5 : decode (ab_bc mt_State_init) 5 = .ok (.new 7, 3) := by decide +kernel
theorem d_State_init_8 : decode (ab_bc mt_State_init) 8 = .ok (.dup, 1) := by decide +kernel
theorem d_State_init_9 : decode (ab_bc mt_State_init) 9 = .ok (.invokespecial 9, 3) := by decide +kernel
theorem d_State_init_12 : decode (ab_bc mt_State_init) 12 = .ok (.putfield 10, 3) := by decide +kernel
theorem d_State_init_15 : decode (ab_bc mt_State_init) 15 = .ok (.aload_n 0, 1) := by decide +kernel
theorem d_State_init_16 : decode (ab_bc mt_State_init) 16 = .ok (.new 16, 3) := by decide +kernel
theorem d_State_init_19 : decode (ab_bc mt_State_init) 19 = .ok (.dup, 1) := by decide +kernel
theorem d_State_init_20 : decode (ab_bc mt_State_init) 20 = .ok (.invokespecial 18, 3) := by decide +kernel
theorem d_State_init_23 : decode (ab_bc mt_State_init) 23 = .ok (.putfield 19, 3) := by decide +kernel
theorem d_State_init_26 : decode (ab_bc mt_State_init) 26 = .ok (.aload_n 0, 1) := by decide +kernel
theorem d_State_init_27 : decode (ab_bc mt_State_init) 27 = .ok (.new 23, 3) := by decide +kernel
theorem d_State_init_30 : decode (ab_bc mt_State_init) 30 = .ok (.dup, 1) := by decide +kernel
theorem d_State_init_31 : decode (ab_bc mt_State_init) 31 = .ok (.invokespecial 25, 3) := by decide +kernel
theorem d_State_init_34 : decode (ab_bc mt_State_init) 34 = .ok (.putfield 26, 3) := by decide +kernel
theorem d_State_init_37 : decode (ab_bc mt_State_init) 37 = .ok (.aload_n 0, 1) := by decide +kernel
theorem d_State_init_38 : decode (ab_bc mt_State_init) 38 = .ok (.iconst 0, 1) := by decide +kernel
theorem d_State_init_39 : decode (ab_bc mt_State_init) 39 = .ok (.putfield 30, 3) := by decide +kernel
theorem d_State_init_42 : decode (ab_bc mt_State_init) 42 = .ok (.aload_n 0, 1) := by decide +kernel
theorem d_State_init_43 : decode (ab_bc mt_State_init) 43 = .ok (.iconst 0, 1) := by decide +kernel
theorem d_State_init_44 : decode (ab_bc mt_State_init) 44 = .ok (.putfield 34, 3) := by decide +kernel
theorem d_State_init_47 : decode (ab_bc mt_State_init) 47 = .ok (.aload_n 0, 1) := by decide +kernel
theorem d_State_init_48 : decode (ab_bc mt_State_init) 48 = .ok (.iconst 0, 1) := by decide +kernel
theorem d_State_init_49 : decode (ab_bc mt_State_init) 49 = .ok (.putfield 37, 3) := by decide +kernel
theorem d_State_init_52 : decode (ab_bc mt_State_init) 52 = .ok (.aload_n 0, 1) := by decide +kernel
theorem d_State_init_53 : decode (ab_bc mt_State_init) 53 = .ok (.iconst 3, 1) := by decide +kernel
theorem d_State_init_54 : decode (ab_bc mt_State_init) 54 = .ok (.newarray .int, 2) := by decide +kernel
theorem d_State_init_56 : decode (ab_bc mt_State_init) 56 = .ok (.putfield 40, 3) := by decide +kernel
theorem d_State_init_59 : decode (ab_bc mt_State_init) 59 = .ok (.return_, 1) := by decide +kernel
theorem d_Cables_init_0 : decode (ab_bc mt_Cables_init) 0 = .ok (.aload_n 0, 1) := by decide +kernel
theorem d_Cables_init_1 : decode (ab_bc mt_Cables_init) 1 = .ok (.invokespecial 3, 3) := by decide +kernel
theorem d_Cables_init_4 : decode (ab_bc mt_Cables_init) 4 = .ok (.aload_n 0, 1) := by decide +kernel
theorem d_Cables_init_5 : decode (ab_bc mt_Cables_init) 5 = .ok (.iconst 4, 1) := by decide +kernel
theorem d_Cables_init_6 : decode (ab_bc mt_Cables_init) 6 = .ok (.putfield 9, 3) := by decide +kernel
theorem d_Cables_init_9 : decode (ab_bc mt_Cables_init) 9 = .ok (.aload_n 0, 1) := by decide +kernel
theorem d_Cables_init_10 : decode (ab_bc mt_Cables_init) 10 = .ok (.iconst 0, 1) := by decide +kernel
theorem d_Cables_init_11 : decode (ab_bc mt_Cables_init) 11 = .ok (.putfield 15, 3) := by decide +kernel
theorem d_Cables_init_14 : decode (ab_bc mt_Cables_init) 14 = .ok (.aload_n 0, 1) := by decide +kernel
theorem d_Cables_init_15 : decode (ab_bc mt_Cables_init) 15 = .ok (.iconst 0, 1) := by decide +kernel
theorem d_Cables_init_16 : decode (ab_bc mt_Cables_init) 16 = .ok (.putfield 18, 3) := by decide +kernel
theorem d_Cables_init_19 : decode (ab_bc mt_Cables_init) 19 = .ok (.aload_n 0, 1) := by decide +kernel
theorem d_Cables_init_20 : decode (ab_bc mt_Cables_init) 20 = .ok (.bipush 24, 2) := by decide +kernel
theorem d_Cables_init_22 : decode (ab_bc mt_Cables_init) 22 = .ok (.newarray .int, 2) := by decide +kernel
theorem d_Cables_init_24 : decode (ab_bc mt_Cables_init) 24 = .ok (.putfield 21, 3) := by decide +kernel
theorem d_Cables_init_27 : decode (ab_bc mt_Cables_init) 27 = .ok (.aload_n 0, 1) := by decide +kernel
theorem d_Cables_init_28 : decode (ab_bc mt_Cables_init) 28 = .ok (.bipush 24, 2) := by decide +kernel
theorem d_Cables_init_30 : decode (ab_bc mt_Cables_init) 30 = .ok (.newarray .int, 2) := by decide +kernel
theorem d_Cables_init_32 : decode (ab_bc mt_Cables_init) 32 = .ok (.putfield 25, 3) := by decide +kernel
theorem d_Cables_init_35 : decode (ab_bc mt_Cables_init) 35 = .ok (.aload_n 0, 1) := by decide +kernel
theorem d_Cables_init_36 : decode (ab_bc mt_Cables_init) 36 = .ok (.bipush 24, 2) := by decide +kernel
theorem d_Cables_init_38 : decode (ab_bc mt_Cables_init) 38 = .ok (.newarray .int, 2) := by decide +kernel
theorem d_Cables_init_40 : decode (ab_bc mt_Cables_init) 40 = .ok (.putfield 28, 3) := by decide +kernel
theorem d_Cables_init_43 : decode (ab_bc mt_Cables_init) 43 = .ok (.aload_n 0, 1) := by decide +kernel
theorem d_Cables_init_44 : decode (ab_bc mt_Cables_init) 44 = .ok (.bipush 24, 2) := by decide +kernel
theorem d_Cables_init_46 : decode (ab_bc mt_Cables_init) 46 = .ok (.newarray .int, 2) := by decide +kernel
theorem d_Cables_init_48 : decode (ab_bc mt_Cables_init) 48 = .ok (.putfield 31, 3) := by decide +kernel
theorem d_Cables_init_51 : decode (ab_bc mt_Cables_init) 51 = .ok (.aload_n 0, 1) := by decide +kernel
theorem d_Cables_init_52 : decode (ab_bc mt_Cables_init) 52 = .ok (.bipush 24, 2) := by decide +kernel
theorem d_Cables_init_54 : decode (ab_bc mt_Cables_init) 54 = .ok (.newarray .int, 2) := by decide +kernel
theorem d_Cables_init_56 : decode (ab_bc mt_Cables_init) 56 = .ok (.putfield 34, 3) := by decide +kernel
theorem d_Cables_init_59 : decode (ab_bc mt_Cables_init) 59 = .ok (.return_, 1) := by decide +kernel
theorem d_Swaps_init_0 : decode (ab_bc mt_Swaps_init) 0 = .ok (.aload_n 0, 1) := by decide +kernel
theorem d_Swaps_init_1 : decode (ab_bc mt_Swaps_init) 1 = .ok (.invokespecial 1, 3) := by decide +kernel
theorem d_Swaps_init_4 : decode (ab_bc mt_Swaps_init) 4 = .ok (.aload_n 0, 1) := by decide +kernel
theorem d_Swaps_init_5 : decode (ab_bc mt_Swaps_init) 5 = .ok (.sipush 1024, 3) := by decide +kernel
theorem d_Swaps_init_8 : decode (ab_bc mt_Swaps_init) 8 = .ok (.newarray .int, 2) := by decide +kernel
theorem d_Swaps_init_10 : decode (ab_bc mt_Swaps_init) 10 = .ok (.putfield 9, 3) := by decide +kernel
theorem d_Swaps_init_13 : decode (ab_bc mt_Swaps_init) 13 = .ok (.aload_n 0, 1) := by decide +kernel
theorem d_Swaps_init_14 : decode (ab_bc mt_Swaps_init) 14 = .ok (.iconst 0, 1) := by decide +kernel
theorem d_Swaps_init_15 : decode (ab_bc mt_Swaps_init) 15 = .ok (.putfield 13, 3) := by decide +kernel
theorem d_Swaps_init_18 : decode (ab_bc mt_Swaps_init) 18 = .ok (.return_, 1) := by decide +kernel
theorem d_Acts_init_0 : decode (ab_bc mt_Acts_init) 0 = .ok (.aload_n 0, 1) := by decide +kernel
theorem d_Acts_init_1 : decode (ab_bc mt_Acts_init) 1 = .ok (.invokespecial 3, 3) := by decide +kernel
theorem d_Acts_init_4 : decode (ab_bc mt_Acts_init) 4 = .ok (.aload_n 0, 1) := by decide +kernel
theorem d_Acts_init_5 : decode (ab_bc mt_Acts_init) 5 = .ok (.sipush 960, 3) := by decide +kernel
theorem d_Acts_init_8 : decode (ab_bc mt_Acts_init) 8 = .ok (.newarray .int, 2) := by decide +kernel
theorem d_Acts_init_10 : decode (ab_bc mt_Acts_init) 10 = .ok (.putfield 11, 3) := by decide +kernel
theorem d_Acts_init_13 : decode (ab_bc mt_Acts_init) 13 = .ok (.aload_n 0, 1) := by decide +kernel
theorem d_Acts_init_14 : decode (ab_bc mt_Acts_init) 14 = .ok (.bipush 40, 2) := by decide +kernel
theorem d_Acts_init_16 : decode (ab_bc mt_Acts_init) 16 = .ok (.newarray .int, 2) := by decide +kernel
theorem d_Acts_init_18 : decode (ab_bc mt_Acts_init) 18 = .ok (.putfield 15, 3) := by decide +kernel
theorem d_Acts_init_21 : decode (ab_bc mt_Acts_init) 21 = .ok (.aload_n 0, 1) := by decide +kernel
theorem d_Acts_init_22 : decode (ab_bc mt_Acts_init) 22 = .ok (.bipush 40, 2) := by decide +kernel
theorem d_Acts_init_24 : decode (ab_bc mt_Acts_init) 24 = .ok (.newarray .int, 2) := by decide +kernel
theorem d_Acts_init_26 : decode (ab_bc mt_Acts_init) 26 = .ok (.putfield 18, 3) := by decide +kernel
theorem d_Acts_init_29 : decode (ab_bc mt_Acts_init) 29 = .ok (.aload_n 0, 1) := by decide +kernel
theorem d_Acts_init_30 : decode (ab_bc mt_Acts_init) 30 = .ok (.bipush 40, 2) := by decide +kernel
theorem d_Acts_init_32 : decode (ab_bc mt_Acts_init) 32 = .ok (.newarray .int, 2) := by decide +kernel
theorem d_Acts_init_34 : decode (ab_bc mt_Acts_init) 34 = .ok (.putfield 21, 3) := by decide +kernel
theorem d_Acts_init_37 : decode (ab_bc mt_Acts_init) 37 = .ok (.aload_n 0, 1) := by decide +kernel
theorem d_Acts_init_38 : decode (ab_bc mt_Acts_init) 38 = .ok (.iconst 0, 1) := by decide +kernel
theorem d_Acts_init_39 : decode (ab_bc mt_Acts_init) 39 = .ok (.putfield 24, 3) := by decide +kernel
theorem d_Acts_init_42 : decode (ab_bc mt_Acts_init) 42 = .ok (.aload_n 0, 1) := by decide +kernel
theorem d_Acts_init_43 : decode (ab_bc mt_Acts_init) 43 = .ok (.iconst 0, 1) := by decide +kernel
theorem d_Acts_init_44 : decode (ab_bc mt_Acts_init) 44 = .ok (.putfield 28, 3) := by decide +kernel
theorem d_Acts_init_47 : decode (ab_bc mt_Acts_init) 47 = .ok (.return_, 1) := by decide +kernel
theorem d_Forest_init_0 : decode (ab_bc mt_Forest_init) 0 = .ok (.aload_n 0, 1) := by decide +kernel
theorem d_Forest_init_1 : decode (ab_bc mt_Forest_init) 1 = .ok (.invokespecial 3, 3) := by decide +kernel
theorem d_Forest_init_4 : decode (ab_bc mt_Forest_init) 4 = .ok (.aload_n 0, 1) := by decide +kernel
theorem d_Forest_init_5 : decode (ab_bc mt_Forest_init) 5 = .ok (.bipush 9, 2) := by decide +kernel
theorem d_Forest_init_7 : decode (ab_bc mt_Forest_init) 7 = .ok (.newarray .int, 2) := by decide +kernel
theorem d_Forest_init_9 : decode (ab_bc mt_Forest_init) 9 = .ok (.putfield 9, 3) := by decide +kernel
theorem d_Forest_init_12 : decode (ab_bc mt_Forest_init) 12 = .ok (.aload_n 0, 1) := by decide +kernel
theorem d_Forest_init_13 : decode (ab_bc mt_Forest_init) 13 = .ok (.iconst 0, 1) := by decide +kernel
theorem d_Forest_init_14 : decode (ab_bc mt_Forest_init) 14 = .ok (.putfield 15, 3) := by decide +kernel
theorem d_Forest_init_17 : decode (ab_bc mt_Forest_init) 17 = .ok (.aload_n 0, 1) := by decide +kernel
theorem d_Forest_init_18 : decode (ab_bc mt_Forest_init) 18 = .ok (.iconst 0, 1) := by decide +kernel
theorem d_Forest_init_19 : decode (ab_bc mt_Forest_init) 19 = .ok (.putfield 19, 3) := by decide +kernel
theorem d_Forest_init_22 : decode (ab_bc mt_Forest_init) 22 = .ok (.aload_n 0, 1) := by decide +kernel
theorem d_Forest_init_23 : decode (ab_bc mt_Forest_init) 23 = .ok (.iconst 0, 1) := by decide +kernel
theorem d_Forest_init_24 : decode (ab_bc mt_Forest_init) 24 = .ok (.putfield 22, 3) := by decide +kernel
theorem d_Forest_init_27 : decode (ab_bc mt_Forest_init) 27 = .ok (.aload_n 0, 1) := by decide +kernel
theorem d_Forest_init_28 : decode (ab_bc mt_Forest_init) 28 = .ok (.iconst 0, 1) := by decide +kernel
theorem d_Forest_init_29 : decode (ab_bc mt_Forest_init) 29 = .ok (.putfield 25, 3) := by decide +kernel
theorem d_Forest_init_32 : decode (ab_bc mt_Forest_init) 32 = .ok (.aload_n 0, 1) := by decide +kernel
theorem d_Forest_init_33 : decode (ab_bc mt_Forest_init) 33 = .ok (.bipush 10, 2) := by decide +kernel
theorem d_Forest_init_35 : decode (ab_bc mt_Forest_init) 35 = .ok (.newarray .int, 2) := by decide +kernel
theorem d_Forest_init_37 : decode (ab_bc mt_Forest_init) 37 = .ok (.putfield 28, 3) := by decide +kernel
theorem d_Forest_init_40 : decode (ab_bc mt_Forest_init) 40 = .ok (.return_, 1) := by decide +kernel
theorem d_Ways_init_0 : decode (ab_bc mt_Ways_init) 0 = .ok (.aload_n 0, 1) := by decide +kernel
theorem d_Ways_init_1 : decode (ab_bc mt_Ways_init) 1 = .ok (.invokespecial 3, 3) := by decide +kernel
theorem d_Ways_init_4 : decode (ab_bc mt_Ways_init) 4 = .ok (.aload_n 0, 1) := by decide +kernel
theorem d_Ways_init_5 : decode (ab_bc mt_Ways_init) 5 = .ok (.iconst 0, 1) := by decide +kernel
theorem d_Ways_init_6 : decode (ab_bc mt_Ways_init) 6 = .ok (.putfield 9, 3) := by decide +kernel
theorem d_Ways_init_9 : decode (ab_bc mt_Ways_init) 9 = .ok (.aload_n 0, 1) := by decide +kernel
theorem d_Ways_init_10 : decode (ab_bc mt_Ways_init) 10 = .ok (.bipush 100, 2) := by decide +kernel
theorem d_Ways_init_12 : decode (ab_bc mt_Ways_init) 12 = .ok (.newarray .int, 2) := by decide +kernel
theorem d_Ways_init_14 : decode (ab_bc mt_Ways_init) 14 = .ok (.putfield 15, 3) := by decide +kernel
theorem d_Ways_init_17 : decode (ab_bc mt_Ways_init) 17 = .ok (.aload_n 0, 1) := by decide +kernel
theorem d_Ways_init_18 : decode (ab_bc mt_Ways_init) 18 = .ok (.bipush 100, 2) := by decide +kernel
theorem d_Ways_init_20 : decode (ab_bc mt_Ways_init) 20 = .ok (.newarray .int, 2) := by decide +kernel
theorem d_Ways_init_22 : decode (ab_bc mt_Ways_init) 22 = .ok (.putfield 19, 3) := by decide +kernel
theorem d_Ways_init_25 : decode (ab_bc mt_Ways_init) 25 = .ok (.aload_n 0, 1) := by decide +kernel
theorem d_Ways_init_26 : decode (ab_bc mt_Ways_init) 26 = .ok (.bipush 100, 2) := by decide +kernel
theorem d_Ways_init_28 : decode (ab_bc mt_Ways_init) 28 = .ok (.newarray .int, 2) := by decide +kernel
theorem d_Ways_init_30 : decode (ab_bc mt_Ways_init) 30 = .ok (.putfield 22, 3) := by decide +kernel
theorem d_Ways_init_33 : decode (ab_bc mt_Ways_init) 33 = .ok (.aload_n 0, 1) := by decide +kernel
theorem d_Ways_init_34 : decode (ab_bc mt_Ways_init) 34 = .ok (.bipush 100, 2) := by decide +kernel
theorem d_Ways_init_36 : decode (ab_bc mt_Ways_init) 36 = .ok (.newarray .int, 2) := by decide +kernel
theorem d_Ways_init_38 : decode (ab_bc mt_Ways_init) 38 = .ok (.putfield 25, 3) := by decide +kernel
theorem d_Ways_init_41 : decode (ab_bc mt_Ways_init) 41 = .ok (.return_, 1) := by decide +kernel
theorem d_Roads_init_0 : decode (ab_bc mt_Roads_init) 0 = .ok (.aload_n 0, 1) := by decide +kernel
theorem d_Roads_init_1 : decode (ab_bc mt_Roads_init) 1 = .ok (.invokespecial 3, 3) := by decide +kernel
theorem d_Roads_init_4 : decode (ab_bc mt_Roads_init) 4 = .ok (.aload_n 0, 1) := by decide +kernel
theorem d_Roads_init_5 : decode (ab_bc mt_Roads_init) 5 = .ok (.iconst 0, 1) := by decide +kernel
theorem d_Roads_init_6 : decode (ab_bc mt_Roads_init) 6 = .ok (.putfield 9, 3) := by decide +kernel
theorem d_Roads_init_9 : decode (ab_bc mt_Roads_init) 9 = .ok (.aload_n 0, 1) := by decide +kernel
theorem d_Roads_init_10 : decode (ab_bc mt_Roads_init) 10 = .ok (.bipush 100, 2) := by decide +kernel
theorem d_Roads_init_12 : decode (ab_bc mt_Roads_init) 12 = .ok (.newarray .int, 2) := by decide +kernel
theorem d_Roads_init_14 : decode (ab_bc mt_Roads_init) 14 = .ok (.putfield 15, 3) := by decide +kernel
theorem d_Roads_init_17 : decode (ab_bc mt_Roads_init) 17 = .ok (.aload_n 0, 1) := by decide +kernel
theorem d_Roads_init_18 : decode (ab_bc mt_Roads_init) 18 = .ok (.bipush 10, 2) := by decide +kernel
theorem d_Roads_init_20 : decode (ab_bc mt_Roads_init) 20 = .ok (.newarray .int, 2) := by decide +kernel
theorem d_Roads_init_22 : decode (ab_bc mt_Roads_init) 22 = .ok (.putfield 19, 3) := by decide +kernel
theorem d_Roads_init_25 : decode (ab_bc mt_Roads_init) 25 = .ok (.aload_n 0, 1) := by decide +kernel
theorem d_Roads_init_26 : decode (ab_bc mt_Roads_init) 26 = .ok (.bipush 24, 2) := by decide +kernel
theorem d_Roads_init_28 : decode (ab_bc mt_Roads_init) 28 = .ok (.newarray .int, 2) := by decide +kernel
theorem d_Roads_init_30 : decode (ab_bc mt_Roads_init) 30 = .ok (.putfield 22, 3) := by decide +kernel
theorem d_Roads_init_33 : decode (ab_bc mt_Roads_init) 33 = .ok (.aload_n 0, 1) := by decide +kernel
theorem d_Roads_init_34 : decode (ab_bc mt_Roads_init) 34 = .ok (.bipush 10, 2) := by decide +kernel
theorem d_Roads_init_36 : decode (ab_bc mt_Roads_init) 36 = .ok (.newarray .int, 2) := by decide +kernel
theorem d_Roads_init_38 : decode (ab_bc mt_Roads_init) 38 = .ok (.putfield 25, 3) := by decide +kernel
theorem d_Roads_init_41 : decode (ab_bc mt_Roads_init) 41 = .ok (.return_, 1) := by decide +kernel
theorem d_Likes_init_0 : decode (ab_bc mt_Likes_init) 0 = .ok (.aload_n 0, 1) := by decide +kernel
theorem d_Likes_init_1 : decode (ab_bc mt_Likes_init) 1 = .ok (.invokespecial 3, 3) := by decide +kernel
theorem d_Likes_init_4 : decode (ab_bc mt_Likes_init) 4 = .ok (.aload_n 0, 1) := by decide +kernel
theorem d_Likes_init_5 : decode (ab_bc mt_Likes_init) 5 = .ok (.bipush 10, 2) := by decide +kernel
theorem d_Likes_init_7 : decode (ab_bc mt_Likes_init) 7 = .ok (.newarray .int, 2) := by decide +kernel
theorem d_Likes_init_9 : decode (ab_bc mt_Likes_init) 9 = .ok (.putfield 9, 3) := by decide +kernel
theorem d_Likes_init_12 : decode (ab_bc mt_Likes_init) 12 = .ok (.aload_n 0, 1) := by decide +kernel
theorem d_Likes_init_13 : decode (ab_bc mt_Likes_init) 13 = .ok (.bipush 10, 2) := by decide +kernel
theorem d_Likes_init_15 : decode (ab_bc mt_Likes_init) 15 = .ok (.newarray .int, 2) := by decide +kernel
theorem d_Likes_init_17 : decode (ab_bc mt_Likes_init) 17 = .ok (.putfield 15, 3) := by decide +kernel
theorem d_Likes_init_20 : decode (ab_bc mt_Likes_init) 20 = .ok (.aload_n 0, 1) := by decide +kernel
theorem d_Likes_init_21 : decode (ab_bc mt_Likes_init) 21 = .ok (.bipush 100, 2) := by decide +kernel
theorem d_Likes_init_23 : decode (ab_bc mt_Likes_init) 23 = .ok (.newarray .long, 2) := by decide +kernel
theorem d_Likes_init_25 : decode (ab_bc mt_Likes_init) 25 = .ok (.putfield 18, 3) := by decide +kernel
theorem d_Likes_init_28 : decode (ab_bc mt_Likes_init) 28 = .ok (.aload_n 0, 1) := by decide +kernel
theorem d_Likes_init_29 : decode (ab_bc mt_Likes_init) 29 = .ok (.bipush 10, 2) := by decide +kernel
theorem d_Likes_init_31 : decode (ab_bc mt_Likes_init) 31 = .ok (.newarray .int, 2) := by decide +kernel
theorem d_Likes_init_33 : decode (ab_bc mt_Likes_init) 33 = .ok (.putfield 22, 3) := by decide +kernel
theorem d_Likes_init_36 : decode (ab_bc mt_Likes_init) 36 = .ok (.return_, 1) := by decide +kernel
theorem d_Teller_init_0 : decode (ab_bc mt_Teller_init) 0 = .ok (.aload_n 0, 1) := by decide +kernel
theorem d_Teller_init_1 : decode (ab_bc mt_Teller_init) 1 = .ok (.invokespecial 3, 3) := by decide +kernel
theorem d_Teller_init_4 : decode (ab_bc mt_Teller_init) 4 = .ok (.aload_n 0, 1) := by decide +kernel
theorem d_Teller_init_5 : decode (ab_bc mt_Teller_init) 5 = .ok (.sipush 700, 3) := by decide +kernel
theorem d_Teller_init_8 : decode (ab_bc mt_Teller_init) 8 = .ok (.newarray .byte, 2) := by decide +kernel
theorem d_Teller_init_10 : decode (ab_bc mt_Teller_init) 10 = .ok (.putfield 9, 3) := by decide +kernel
theorem d_Teller_init_13 : decode (ab_bc mt_Teller_init) 13 = .ok (.aload_n 0, 1) := by decide +kernel
theorem d_Teller_init_14 : decode (ab_bc mt_Teller_init) 14 = .ok (.iconst 0, 1) := by decide +kernel
theorem d_Teller_init_15 : decode (ab_bc mt_Teller_init) 15 = .ok (.putfield 15, 3) := by decide +kernel
theorem d_Teller_init_18 : decode (ab_bc mt_Teller_init) 18 = .ok (.return_, 1) := by decide +kernel
theorem d_M_init_0 : decode (ab_bc mt_M_init) 0 = .ok (.aload_n 0, 1) := by decide +kernel
theorem d_M_init_1 : decode (ab_bc mt_M_init) 1 = .ok (.invokespecial 1, 3) := by decide +kernel
theorem d_M_init_4 : decode (ab_bc mt_M_init) 4 = .ok (.aload_n 0, 1) := by decide +kernel
theorem d_M_init_5 : decode (ab_bc mt_M_init) 5 = .ok (.iconst 3, 1) := by decide +kernel
theorem d_M_init_6 : decode (ab_bc mt_M_init) 6 = .ok (.anewarray 7, 3) := by decide +kernel
theorem d_M_init_9 : decode (ab_bc mt_M_init) 9 = .ok (.dup, 1) := by decide +kernel
theorem d_M_init_10 : decode (ab_bc mt_M_init) 10 = .ok (.iconst 0, 1) := by decide +kernel
theorem d_M_init_11 : decode (ab_bc mt_M_init) 11 = .ok (.ldc 9, 2) := by decide +kernel
theorem d_M_init_13 : decode (ab_bc mt_M_init) 13 = .ok (.aastore, 1) := by decide +kernel
theorem d_M_init_14 : decode (ab_bc mt_M_init) 14 = .ok (.dup, 1) := by decide +kernel
theorem d_M_init_15 : decode (ab_bc mt_M_init) 15 = .ok (.iconst 1, 1) := by decide +kernel
theorem d_M_init_16 : decode (ab_bc mt_M_init) 16 = .ok (.ldc 11, 2) := by decide +kernel
theorem d_M_init_18 : decode (ab_bc mt_M_init) 18 = .ok (.aastore, 1) := by decide +kernel
theorem d_M_init_19 : decode (ab_bc mt_M_init) 19 = .ok (.dup, 1) := by decide +kernel
theorem d_M_init_20 : decode (ab_bc mt_M_init) 20 = .ok (.iconst 2, 1) := by decide +kernel
theorem d_M_init_21 : decode (ab_bc mt_M_init) 21 = .ok (.ldc 13, 2) := by decide +kernel
theorem d_M_init_23 : decode (ab_bc mt_M_init) 23 = .ok (.aastore, 1) := by decide +kernel
theorem d_M_init_24 : decode (ab_bc mt_M_init) 24 = .ok (.putfield 15, 3) := by decide +kernel
theorem d_M_init_27 : decode (ab_bc mt_M_init) 27 = .ok (.aload_n 0, 1) := by decide +kernel
theorem d_M_init_28 : decode (ab_bc mt_M_init) 28 = .ok (.iconst 4, 1) := by decide +kernel
theorem d_M_init_29 : decode (ab_bc mt_M_init) 29 = .ok (.putfield 21, 3) := by decide +kernel
theorem d_M_init_32 : decode (ab_bc mt_M_init) 32 = .ok (.aload_n 0, 1) := by decide +kernel
theorem d_M_init_33 : decode (ab_bc mt_M_init) 33 = .ok (.sipush 399, 3) := by decide +kernel
theorem d_M_init_36 : decode (ab_bc mt_M_init) 36 = .ok (.newarray .int, 2) := by decide +kernel
theorem d_M_init_38 : decode (ab_bc mt_M_init) 38 = .ok (.putfield 24, 3) := by decide +kernel
theorem d_M_init_41 : decode (ab_bc mt_M_init) 41 = .ok (.aload_n 0, 1) := by decide +kernel
theorem d_M_init_42 : decode (ab_bc mt_M_init) 42 = .ok (.sipush 399, 3) := by decide +kernel
theorem d_M_init_45 : decode (ab_bc mt_M_init) 45 = .ok (.newarray .int, 2) := by decide +kernel
theorem d_M_init_47 : decode (ab_bc mt_M_init) 47 = .ok (.putfield 28, 3) := by decide +kernel
theorem d_M_init_50 : decode (ab_bc mt_M_init) 50 = .ok (.aload_n 0, 1) := by decide +kernel
theorem d_M_init_51 : decode (ab_bc mt_M_init) 51 = .ok (.iconst 3, 1) := by decide +kernel
theorem d_M_init_52 : decode (ab_bc mt_M_init) 52 = .ok (.newarray .int, 2) := by decide +kernel
theorem d_M_init_54 : decode (ab_bc mt_M_init) 54 = .ok (.putfield 31, 3) := by decide +kernel
theorem d_M_init_57 : decode (ab_bc mt_M_init) 57 = .ok (.aload_n 0, 1) := by decide +kernel
theorem d_M_init_58 : decode (ab_bc mt_M_init) 58 = .ok (.sipush 700, 3) := by decide +kernel
theorem d_M_init_61 : decode (ab_bc mt_M_init) 61 = .ok (.newarray .int, 2) := by decide +kernel
theorem d_M_init_63 : decode (ab_bc mt_M_init) 63 = .ok (.putfield 34, 3) := by decide +kernel
theorem d_M_init_66 : decode (ab_bc mt_M_init) 66 = .ok (.aload_n 0, 1) := by decide +kernel
theorem d_M_init_67 : decode (ab_bc mt_M_init) 67 = .ok (.iconst (-1), 1) := by decide +kernel
theorem d_M_init_68 : decode (ab_bc mt_M_init) 68 = .ok (.putfield 37, 3) := by decide +kernel
theorem d_M_init_71 : decode (ab_bc mt_M_init) 71 = .ok (.aload_n 0, 1) := by decide +kernel
theorem d_M_init_72 : decode (ab_bc mt_M_init) 72 = .ok (.bipush 10, 2) := by decide +kernel
theorem d_M_init_74 : decode (ab_bc mt_M_init) 74 = .ok (.newarray .int, 2) := by decide +kernel
theorem d_M_init_76 : decode (ab_bc mt_M_init) 76 = .ok (.putfield 40, 3) := by decide +kernel
theorem d_M_init_79 : decode (ab_bc mt_M_init) 79 = .ok (.aload_n 0, 1) := by decide +kernel
theorem d_M_init_80 : decode (ab_bc mt_M_init) 80 = .ok (.bipush 24, 2) := by decide +kernel
theorem d_M_init_82 : decode (ab_bc mt_M_init) 82 = .ok (.newarray .int, 2) := by decide +kernel
theorem d_M_init_84 : decode (ab_bc mt_M_init) 84 = .ok (.putfield 43, 3) := by decide +kernel
theorem d_M_init_87 : decode (ab_bc mt_M_init) 87 = .ok (.aload_n 0, 1) := by decide +kernel
theorem d_M_init_88 : decode (ab_bc mt_M_init) 88 = .ok (.bipush 10, 2) := by decide +kernel
theorem d_M_init_90 : decode (ab_bc mt_M_init) 90 = .ok (.newarray .int, 2) := by decide +kernel
theorem d_M_init_92 : decode (ab_bc mt_M_init) 92 = .ok (.putfield 46, 3) := by decide +kernel
theorem d_M_init_95 : decode (ab_bc mt_M_init) 95 = .ok (.aload_n 0, 1) := by decide +kernel
theorem d_M_init_96 : decode (ab_bc mt_M_init) 96 = .ok (.bipush 10, 2) := by decide +kernel
theorem d_M_init_98 : decode (ab_bc mt_M_init) 98 = .ok (.newarray .int, 2) := by decide +kernel
theorem d_M_init_100 : decode (ab_bc mt_M_init) 100 = .ok (.putfield 49, 3) := by decide +kernel
theorem d_M_init_103 : decode (ab_bc mt_M_init) 103 = .ok (.aload_n 0, 1) := by decide +kernel
theorem d_M_init_104 : decode (ab_bc mt_M_init) 104 = .ok (.bipush 10, 2) := by decide +kernel
theorem d_M_init_106 : decode (ab_bc mt_M_init) 106 = .ok (.newarray .int, 2) := by decide +kernel
theorem d_M_init_108 : decode (ab_bc mt_M_init) 108 = .ok (.putfield 52, 3) := by decide +kernel
theorem d_M_init_111 : decode (ab_bc mt_M_init) 111 = .ok (.aload_n 0, 1) := by decide +kernel
theorem d_M_init_112 : decode (ab_bc mt_M_init) 112 = .ok (.bipush 24, 2) := by decide +kernel
theorem d_M_init_114 : decode (ab_bc mt_M_init) 114 = .ok (.newarray .int, 2) := by decide +kernel
theorem d_M_init_116 : decode (ab_bc mt_M_init) 116 = .ok (.putfield 55, 3) := by decide +kernel
theorem d_M_init_119 : decode (ab_bc mt_M_init) 119 = .ok (.aload_n 0, 1) := by decide +kernel
theorem d_M_init_120 : decode (ab_bc mt_M_init) 120 = .ok (.bipush 10, 2) := by decide +kernel
theorem d_M_init_122 : decode (ab_bc mt_M_init) 122 = .ok (.newarray .int, 2) := by decide +kernel
theorem d_M_init_124 : decode (ab_bc mt_M_init) 124 = .ok (.putfield 58, 3) := by decide +kernel
theorem d_M_init_127 : decode (ab_bc mt_M_init) 127 = .ok (.aload_n 0, 1) := by decide +kernel
theorem d_M_init_128 : decode (ab_bc mt_M_init) 128 = .ok (.bipush 24, 2) := by decide +kernel
theorem d_M_init_130 : decode (ab_bc mt_M_init) 130 = .ok (.newarray .int, 2) := by decide +kernel
theorem d_M_init_132 : decode (ab_bc mt_M_init) 132 = .ok (.putfield 61, 3) := by decide +kernel
theorem d_M_init_135 : decode (ab_bc mt_M_init) 135 = .ok (.aload_n 0, 1) := by decide +kernel
theorem d_M_init_136 : decode (ab_bc mt_M_init) 136 = .ok (.bipush 10, 2) := by decide +kernel
theorem d_M_init_138 : decode (ab_bc mt_M_init) 138 = .ok (.newarray .boolean, 2) := by decide +kernel
theorem d_M_init_140 : decode (ab_bc mt_M_init) 140 = .ok (.putfield 64, 3) := by decide +kernel
theorem d_M_init_143 : decode (ab_bc mt_M_init) 143 = .ok (.aload_n 0, 1) := by decide +kernel
theorem d_M_init_144 : decode (ab_bc mt_M_init) 144 = .ok (.bipush 10, 2) := by decide +kernel
theorem d_M_init_146 : decode (ab_bc mt_M_init) 146 = .ok (.newarray .int, 2) := by decide +kernel
theorem d_M_init_148 : decode (ab_bc mt_M_init) 148 = .ok (.putfield 68, 3) := by decide +kernel
theorem d_M_init_151 : decode (ab_bc mt_M_init) 151 = .ok (.aload_n 0, 1) := by decide +kernel
theorem d_M_init_152 : decode (ab_bc mt_M_init) 152 = .ok (.bipush 10, 2) := by decide +kernel
theorem d_M_init_154 : decode (ab_bc mt_M_init) 154 = .ok (.newarray .int, 2) := by decide +kernel
theorem d_M_init_156 : decode (ab_bc mt_M_init) 156 = .ok (.putfield 71, 3) := by decide +kernel
theorem d_M_init_159 : decode (ab_bc mt_M_init) 159 = .ok (.aload_n 0, 1) := by decide +kernel
theorem d_M_init_160 : decode (ab_bc mt_M_init) 160 = .ok (.bipush 100, 2) := by decide +kernel
theorem d_M_init_162 : decode (ab_bc mt_M_init) 162 = .ok (.newarray .long, 2) := by decide +kernel
theorem d_M_init_164 : decode (ab_bc mt_M_init) 164 = .ok (.putfield 74, 3) := by decide +kernel
theorem d_M_init_167 : decode (ab_bc mt_M_init) 167 = .ok (.aload_n 0, 1) := by decide +kernel
theorem d_M_init_168 : decode (ab_bc mt_M_init) 168 = .ok (.sipush 10240, 3) := by decide +kernel
theorem d_M_init_171 : decode (ab_bc mt_M_init) 171 = .ok (.newarray .int, 2) := by decide +kernel
theorem d_M_init_173 : decode (ab_bc mt_M_init) 173 = .ok (.putfield 78, 3) := by decide +kernel
theorem d_M_init_176 : decode (ab_bc mt_M_init) 176 = .ok (.aload_n 0, 1) := by decide +kernel
theorem d_M_init_177 : decode (ab_bc mt_M_init) 177 = .ok (.sipush 15960, 3) := by decide +kernel
theorem d_M_init_180 : decode (ab_bc mt_M_init) 180 = .ok (.newarray .int, 2) := by decide +kernel
theorem d_M_init_182 : decode (ab_bc mt_M_init) 182 = .ok (.putfield 81, 3) := by decide +kernel
theorem d_M_init_185 : decode (ab_bc mt_M_init) 185 = .ok (.aload_n 0, 1) := by decide +kernel
theorem d_M_init_186 : decode (ab_bc mt_M_init) 186 = .ok (.bipush 8, 2) := by decide +kernel
theorem d_M_init_188 : decode (ab_bc mt_M_init) 188 = .ok (.newarray .int, 2) := by decide +kernel
theorem d_M_init_190 : decode (ab_bc mt_M_init) 190 = .ok (.putfield 84, 3) := by decide +kernel
theorem d_M_init_193 : decode (ab_bc mt_M_init) 193 = .ok (.aload_n 0, 1) := by decide +kernel
theorem d_M_init_194 : decode (ab_bc mt_M_init) 194 = .ok (.bipush 8, 2) := by decide +kernel
theorem d_M_init_196 : decode (ab_bc mt_M_init) 196 = .ok (.newarray .int, 2) := by decide +kernel
theorem d_M_init_198 : decode (ab_bc mt_M_init) 198 = .ok (.putfield 87, 3) := by decide +kernel
theorem d_M_init_201 : decode (ab_bc mt_M_init) 201 = .ok (.aload_n 0, 1) := by decide +kernel
theorem d_M_init_202 : decode (ab_bc mt_M_init) 202 = .ok (.sipush 399, 3) := by decide +kernel
theorem d_M_init_205 : decode (ab_bc mt_M_init) 205 = .ok (.newarray .int, 2) := by decide +kernel
theorem d_M_init_207 : decode (ab_bc mt_M_init) 207 = .ok (.putfield 90, 3) := by decide +kernel
theorem d_M_init_210 : decode (ab_bc mt_M_init) 210 = .ok (.aload_n 0, 1) := by decide +kernel
theorem d_M_init_211 : decode (ab_bc mt_M_init) 211 = .ok (.sipush 399, 3) := by decide +kernel
theorem d_M_init_214 : decode (ab_bc mt_M_init) 214 = .ok (.newarray .int, 2) := by decide +kernel
theorem d_M_init_216 : decode (ab_bc mt_M_init) 216 = .ok (.putfield 93, 3) := by decide +kernel
theorem d_M_init_219 : decode (ab_bc mt_M_init) 219 = .ok (.aload_n 0, 1) := by decide +kernel
theorem d_M_init_220 : decode (ab_bc mt_M_init) 220 = .ok (.sipush 15960, 3) := by decide +kernel
theorem d_M_init_223 : decode (ab_bc mt_M_init) 223 = .ok (.newarray .int, 2) := by decide +kernel
theorem d_M_init_225 : decode (ab_bc mt_M_init) 225 = .ok (.putfield 96, 3) := by decide +kernel
theorem d_M_init_228 : decode (ab_bc mt_M_init) 228 = .ok (.aload_n 0, 1) := by decide +kernel
theorem d_M_init_229 : decode (ab_bc mt_M_init) 229 = .ok (.bipush 8, 2) := by decide +kernel
theorem d_M_init_231 : decode (ab_bc mt_M_init) 231 = .ok (.newarray .int, 2) := by decide +kernel
theorem d_M_init_233 : decode (ab_bc mt_M_init) 233 = .ok (.putfield 99, 3) := by decide +kernel
theorem d_M_init_236 : decode (ab_bc mt_M_init) 236 = .ok (.aload_n 0, 1) := by decide +kernel
theorem d_M_init_237 : decode (ab_bc mt_M_init) 237 = .ok (.bipush 8, 2) := by decide +kernel
theorem d_M_init_239 : decode (ab_bc mt_M_init) 239 = .ok (.newarray .int, 2) := by decide +kernel
theorem d_M_init_241 : decode (ab_bc mt_M_init) 241 = .ok (.putfield 102, 3) := by decide +kernel
theorem d_M_init_244 : decode (ab_bc mt_M_init) 244 = .ok (.aload_n 0, 1) := by decide +kernel
theorem d_M_init_245 : decode (ab_bc mt_M_init) 245 = .ok (.iconst 3, 1) := by decide +kernel
theorem d_M_init_246 : decode (ab_bc mt_M_init) 246 = .ok (.newarray .int, 2) := by decide +kernel
theorem d_M_init_248 : decode (ab_bc mt_M_init) 248 = .ok (.putfield 105, 3) := by decide +kernel
theorem d_M_init_251 : decode (ab_bc mt_M_init) 251 = .ok (.return_, 1) := by decide +kernel
theorem d_Reader_init_0 : decode (ab_bc mt_Reader_init) 0 = .ok (.aload_n 0, 1) := by decide +kernel
theorem d_Reader_init_1 : decode (ab_bc mt_Reader_init) 1 = .ok (.invokespecial 3, 3) := by decide +kernel
theorem d_Reader_init_4 : decode (ab_bc mt_Reader_init) 4 = .ok (.aload_n 0, 1) := by decide +kernel
theorem d_Reader_init_5 : decode (ab_bc mt_Reader_init) 5 = .ok (.iconst 0, 1) := by decide +kernel
theorem d_Reader_init_6 : decode (ab_bc mt_Reader_init) 6 = .ok (.putfield 9, 3) := by decide +kernel
theorem d_Reader_init_9 : decode (ab_bc mt_Reader_init) 9 = .ok (.aload_n 0, 1) := by decide +kernel
theorem d_Reader_init_10 : decode (ab_bc mt_Reader_init) 10 = .ok (.iconst 0, 1) := by decide +kernel
theorem d_Reader_init_11 : decode (ab_bc mt_Reader_init) 11 = .ok (.putfield 15, 3) := by decide +kernel
theorem d_Reader_init_14 : decode (ab_bc mt_Reader_init) 14 = .ok (.aload_n 0, 1) := by decide +kernel
theorem d_Reader_init_15 : decode (ab_bc mt_Reader_init) 15 = .ok (.iconst 0, 1) := by decide +kernel
theorem d_Reader_init_16 : decode (ab_bc mt_Reader_init) 16 = .ok (.putfield 18, 3) := by decide +kernel
theorem d_Reader_init_19 : decode (ab_bc mt_Reader_init) 19 = .ok (.aload_n 0, 1) := by decide +kernel
theorem d_Reader_init_20 : decode (ab_bc mt_Reader_init) 20 = .ok (.iconst 0, 1) := by decide +kernel
theorem d_Reader_init_21 : decode (ab_bc mt_Reader_init) 21 = .ok (.putfield 21, 3) := by decide +kernel
theorem d_Reader_init_24 : decode (ab_bc mt_Reader_init) 24 = .ok (.aload_n 0, 1) := by decide +kernel
theorem d_Reader_init_25 : decode (ab_bc mt_Reader_init) 25 = .ok (.iconst 0, 1) := by decide +kernel
theorem d_Reader_init_26 : decode (ab_bc mt_Reader_init) 26 = .ok (.putfield 24, 3) := by decide +kernel
theorem d_Reader_init_29 : decode (ab_bc mt_Reader_init) 29 = .ok (.aload_n 0, 1) := by decide +kernel
theorem d_Reader_init_30 : decode (ab_bc mt_Reader_init) 30 = .ok (.iconst (-1), 1) := by decide +kernel
theorem d_Reader_init_31 : decode (ab_bc mt_Reader_init) 31 = .ok (.putfield 27, 3) := by decide +kernel
theorem d_Reader_init_34 : decode (ab_bc mt_Reader_init) 34 = .ok (.aload_n 0, 1) := by decide +kernel
theorem d_Reader_init_35 : decode (ab_bc mt_Reader_init) 35 = .ok (.aload_n 1, 1) := by decide +kernel
theorem d_Reader_init_36 : decode (ab_bc mt_Reader_init) 36 = .ok (.putfield 30, 3) := by decide +kernel
theorem d_Reader_init_39 : decode (ab_bc mt_Reader_init) 39 = .ok (.aload_n 0, 1) := by decide +kernel
theorem d_Reader_init_40 : decode (ab_bc mt_Reader_init) 40 = .ok (.iload_n 2, 1) := by decide +kernel
theorem d_Reader_init_41 : decode (ab_bc mt_Reader_init) 41 = .ok (.putfield 34, 3) := by decide +kernel
theorem d_Reader_init_44 : decode (ab_bc mt_Reader_init) 44 = .ok (.aload_n 0, 1) := by decide +kernel
theorem d_Reader_init_45 : decode (ab_bc mt_Reader_init) 45 = .ok (.aload_n 3, 1) := by decide +kernel
theorem d_Reader_init_46 : decode (ab_bc mt_Reader_init) 46 = .ok (.putfield 37, 3) := by decide +kernel
theorem d_Reader_init_49 : decode (ab_bc mt_Reader_init) 49 = .ok (.return_, 1) := by decide +kernel
