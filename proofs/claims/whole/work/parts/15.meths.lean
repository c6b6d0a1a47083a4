/-! the methods -/
def mt_K_needCable : ab_Me := (⟨"CableKeeper", "needCable", "(I)V"⟩, prog_1_method_33_code, 2, none)
def mt_K_isInside : ab_Me := (⟨"CableKeeper", "isInside", "(I)Z"⟩, prog_1_method_44_code, 2, some FieldType.boolean)
def mt_Cables_isSound : ab_Me := (⟨"CableKeeper$Cables", "isSound", "(I)Z"⟩, prog_3_method_6_code, 2, some FieldType.boolean)
def mt_Forest_grow : ab_Me := (⟨"CableKeeper$Forest", "grow", "(LCableKeeper$Cables;I)V"⟩, prog_4_method_2_code, 5, none)
def mt_Cables_has : ab_Me := (⟨"CableKeeper$Cables", "has", "(I)Z"⟩, prog_3_method_4_code, 2, some FieldType.boolean)
def mt_Cables_sort : ab_Me := (⟨"CableKeeper$Cables", "sort", "()V"⟩, prog_3_method_8_code, 3, none)
def mt_K_lowestOf : ab_Me := (⟨"CableKeeper", "lowestOf", "(I)I"⟩, prog_1_method_43_code, 2, some FieldType.int)
def mt_K_unite : ab_Me := (⟨"CableKeeper", "unite", "([III)Z"⟩, prog_1_method_70_code, 6, some FieldType.boolean)
theorem ce_Cables_has : ab_Ce mt_Cables_has 1 := ⟨v_570, v_142, ⟨by decide, by decide, by decide +kernel⟩, by decide⟩
theorem ce_K_unite : ab_Ce mt_K_unite 3 := ⟨v_446, v_140, ⟨by decide, by decide, by decide +kernel⟩, by decide⟩
theorem x3_K_185 : ∀ t ∈ vx_at0 "CableKeeper" 185 "java/util/NoSuchElementException" ["java/lang/RuntimeException", "java/lang/Exception"], t ∈ ab_T ∨ (t ∈ lw_tbl ∧ ab_wk t = true ∧ t.onTables = true) := by decide +kernel
theorem x4_K_185 : ∀ t ∈ Cond.classLink "CableKeeper" 183 "java/util/NoSuchElementException" :: Cond.initialized "java/util/NoSuchElementException" :: vx_at0 "CableKeeper" 185 "java/util/NoSuchElementException" ["java/lang/RuntimeException", "java/lang/Exception"], vx_ot t = true := by decide +kernel
