def ab_R0 : String := "CableKeeper$Acts"
def ab_T0 : u_T := fun k => match k with
  | 0 => ("CableKeeper$Acts", "prices", "[I", true)
  | 1 => ("CableKeeper$Acts", "counts", "[I", true)
  | 2 => ("CableKeeper$Acts", "sounds", "[I", true)
  | 3 => ("CableKeeper$Acts", "swaps", "[I", true)
  | 4 => ("CableKeeper$Acts", "oldest", "I", false)
  | _ => ("CableKeeper$Acts", "held", "I", false)
def ab_y0 : Nat → FieldType := fun k => match k with
  | 0 => .array .int
  | 1 => .array .int
  | 2 => .array .int
  | 3 => .array .int
  | 4 => .int
  | _ => .int
def ab_R1 : String := "CableKeeper$Cables"
def ab_T1 : u_T := fun k => match k with
  | 0 => ("CableKeeper$Cables", "sites", "I", false)
  | 1 => ("CableKeeper$Cables", "count", "I", false)
  | 2 => ("CableKeeper$Cables", "sound", "I", false)
  | 3 => ("CableKeeper$Cables", "first", "[I", true)
  | 4 => ("CableKeeper$Cables", "second", "[I", true)
  | 5 => ("CableKeeper$Cables", "price", "[I", true)
  | 6 => ("CableKeeper$Cables", "firm", "[I", true)
  | _ => ("CableKeeper$Cables", "order", "[I", true)
def ab_y1 : Nat → FieldType := fun k => match k with
  | 0 => .int
  | 1 => .int
  | 2 => .int
  | 3 => .array .int
  | 4 => .array .int
  | 5 => .array .int
  | 6 => .array .int
  | _ => .array .int
def ab_R2 : String := "CableKeeper$Forest"
def ab_T2 : u_T := fun k => match k with
  | 0 => ("CableKeeper$Forest", "order", "[I", true)
  | 1 => ("CableKeeper$Forest", "size", "I", false)
  | 2 => ("CableKeeper$Forest", "bits", "I", false)
  | 3 => ("CableKeeper$Forest", "total", "I", false)
  | 4 => ("CableKeeper$Forest", "pieces", "I", false)
  | _ => ("CableKeeper$Forest", "piece", "[I", true)
def ab_y2 : Nat → FieldType := fun k => match k with
  | 0 => .array .int
  | 1 => .int
  | 2 => .int
  | 3 => .int
  | 4 => .int
  | _ => .array .int
def ab_R3 : String := "CableKeeper$Likes"
def ab_T3 : u_T := fun k => match k with
  | 0 => ("CableKeeper$Likes", "before", "[I", true)
  | 1 => ("CableKeeper$Likes", "behind", "[I", true)
  | 2 => ("CableKeeper$Likes", "matrix", "[J", true)
  | _ => ("CableKeeper$Likes", "rows", "[I", true)
def ab_y3 : Nat → FieldType := fun k => match k with
  | 0 => .array .int
  | 1 => .array .int
  | 2 => .array .long
  | _ => .array .int
def ab_R4 : String := "CableKeeper$Reader"
def ab_T4 : u_T := fun k => match k with
  | 0 => ("CableKeeper$Reader", "tape", "[B", true)
  | 1 => ("CableKeeper$Reader", "length", "I", true)
  | 2 => ("CableKeeper$Reader", "into", "LCableKeeper$Cables;", true)
  | 3 => ("CableKeeper$Reader", "place", "I", false)
  | 4 => ("CableKeeper$Reader", "kind", "I", false)
  | 5 => ("CableKeeper$Reader", "start", "I", false)
  | 6 => ("CableKeeper$Reader", "value", "I", false)
  | 7 => ("CableKeeper$Reader", "fault", "I", false)
  | _ => ("CableKeeper$Reader", "faultAt", "I", false)
def ab_y4 : Nat → FieldType := fun k => match k with
  | 0 => .array .byte
  | 1 => .int
  | 2 => .object "CableKeeper$Cables"
  | 3 => .int
  | 4 => .int
  | 5 => .int
  | 6 => .int
  | 7 => .int
  | _ => .int
def ab_R5 : String := "CableKeeper$Roads"
def ab_T5 : u_T := fun k => match k with
  | 0 => ("CableKeeper$Roads", "sites", "I", false)
  | 1 => ("CableKeeper$Roads", "lengths", "[I", true)
  | 2 => ("CableKeeper$Roads", "near", "[I", true)
  | 3 => ("CableKeeper$Roads", "flow", "[I", true)
  | _ => ("CableKeeper$Roads", "reachedBy", "[I", true)
def ab_y5 : Nat → FieldType := fun k => match k with
  | 0 => .int
  | 1 => .array .int
  | 2 => .array .int
  | 3 => .array .int
  | _ => .array .int
def ab_R6 : String := "CableKeeper$State"
def ab_T6 : u_T := fun k => match k with
  | 0 => ("CableKeeper$State", "cables", "LCableKeeper$Cables;", true)
  | 1 => ("CableKeeper$State", "swaps", "LCableKeeper$Swaps;", true)
  | 2 => ("CableKeeper$State", "acts", "LCableKeeper$Acts;", true)
  | 3 => ("CableKeeper$State", "noted", "I", false)
  | 4 => ("CableKeeper$State", "notedIn", "I", false)
  | 5 => ("CableKeeper$State", "notedOut", "I", false)
  | _ => ("CableKeeper$State", "refused", "[I", true)
def ab_y6 : Nat → FieldType := fun k => match k with
  | 0 => .object "CableKeeper$Cables"
  | 1 => .object "CableKeeper$Swaps"
  | 2 => .object "CableKeeper$Acts"
  | 3 => .int
  | 4 => .int
  | 5 => .int
  | _ => .array .int
def ab_R7 : String := "CableKeeper$Swaps"
def ab_T7 : u_T := fun k => match k with
  | 0 => ("CableKeeper$Swaps", "rows", "[I", true)
  | _ => ("CableKeeper$Swaps", "ever", "I", false)
def ab_y7 : Nat → FieldType := fun k => match k with
  | 0 => .array .int
  | _ => .int
def ab_R8 : String := "CableKeeper$Teller"
def ab_T8 : u_T := fun k => match k with
  | 0 => ("CableKeeper$Teller", "text", "[B", true)
  | _ => ("CableKeeper$Teller", "length", "I", false)
def ab_y8 : Nat → FieldType := fun k => match k with
  | 0 => .array .byte
  | _ => .int
def ab_R9 : String := "CableKeeper$Ways"
def ab_T9 : u_T := fun k => match k with
  | 0 => ("CableKeeper$Ways", "sites", "I", false)
  | 1 => ("CableKeeper$Ways", "span", "[I", true)
  | 2 => ("CableKeeper$Ways", "hops", "[I", true)
  | 3 => ("CableKeeper$Ways", "step", "[I", true)
  | _ => ("CableKeeper$Ways", "dearest", "[I", true)
def ab_y9 : Nat → FieldType := fun k => match k with
  | 0 => .int
  | 1 => .array .int
  | 2 => .array .int
  | 3 => .array .int
  | _ => .array .int
def ab_R10 : String := "CableKeeper"
def ab_T10 : u_T := fun k => match k with
  | 0 => ("CableKeeper", "tape", "[B", true)
  | 1 => ("CableKeeper", "fed", "I", false)
  | 2 => ("CableKeeper", "faultAt", "I", false)
  | 3 => ("CableKeeper", "now", "LCableKeeper$State;", true)
  | 4 => ("CableKeeper", "kept", "LCableKeeper$State;", true)
  | 5 => ("CableKeeper", "imaged", "Z", false)
  | 6 => ("CableKeeper", "forest", "LCableKeeper$Forest;", true)
  | 7 => ("CableKeeper", "ways", "LCableKeeper$Ways;", true)
  | 8 => ("CableKeeper", "trial", "LCableKeeper$Cables;", true)
  | 9 => ("CableKeeper", "trialNet", "LCableKeeper$Forest;", true)
  | 10 => ("CableKeeper", "rings", "[I", true)
  | 11 => ("CableKeeper", "roads", "LCableKeeper$Roads;", true)
  | 12 => ("CableKeeper", "likes", "LCableKeeper$Likes;", true)
  | _ => ("CableKeeper", "teller", "LCableKeeper$Teller;", true)
def ab_y10 : Nat → FieldType := fun k => match k with
  | 0 => .array .byte
  | 1 => .int
  | 2 => .int
  | 3 => .object "CableKeeper$State"
  | 4 => .object "CableKeeper$State"
  | 5 => .boolean
  | 6 => .object "CableKeeper$Forest"
  | 7 => .object "CableKeeper$Ways"
  | 8 => .object "CableKeeper$Cables"
  | 9 => .object "CableKeeper$Forest"
  | 10 => .array .int
  | 11 => .object "CableKeeper$Roads"
  | 12 => .object "CableKeeper$Likes"
  | _ => .object "CableKeeper$Teller"
def ab_R11 : String := "CableKeeperModel"
def ab_T11 : u_T := fun k => match k with
  | 0 => ("CableKeeperModel", "words", "[Ljava/lang/String;", true)
  | 1 => ("CableKeeperModel", "code", "I", false)
  | 2 => ("CableKeeperModel", "sites", "I", false)
  | 3 => ("CableKeeperModel", "readSites", "I", false)
  | 4 => ("CableKeeperModel", "now", "[I", true)
  | 5 => ("CableKeeperModel", "reading", "[I", true)
  | 6 => ("CableKeeperModel", "status", "[I", true)
  | 7 => ("CableKeeperModel", "tape", "[I", true)
  | 8 => ("CableKeeperModel", "taped", "I", false)
  | 9 => ("CableKeeperModel", "at", "I", false)
  | 10 => ("CableKeeperModel", "textSize", "I", false)
  | 11 => ("CableKeeperModel", "token", "I", false)
  | 12 => ("CableKeeperModel", "number", "I", false)
  | 13 => ("CableKeeperModel", "begins", "I", false)
  | 14 => ("CableKeeperModel", "stops", "I", false)
  | 15 => ("CableKeeperModel", "bad", "I", false)
  | 16 => ("CableKeeperModel", "badPlace", "I", false)
  | 17 => ("CableKeeperModel", "faultPlace", "I", false)
  | 18 => ("CableKeeperModel", "clauses", "I", false)
  | 19 => ("CableKeeperModel", "piece", "[I", true)
  | 20 => ("CableKeeperModel", "taken", "[I", true)
  | 21 => ("CableKeeperModel", "takenMany", "I", false)
  | 22 => ("CableKeeperModel", "total", "I", false)
  | 23 => ("CableKeeperModel", "way", "[I", true)
  | 24 => ("CableKeeperModel", "by", "[I", true)
  | 25 => ("CableKeeperModel", "open", "[I", true)
  | 26 => ("CableKeeperModel", "wayMany", "I", false)
  | 27 => ("CableKeeperModel", "pricesThen", "[I", true)
  | 28 => ("CableKeeperModel", "near", "[I", true)
  | 29 => ("CableKeeperModel", "gone", "[I", true)
  | 30 => ("CableKeeperModel", "metSites", "[Z", true)
  | 31 => ("CableKeeperModel", "weak", "I", false)
  | 32 => ("CableKeeperModel", "firstWeak", "I", false)
  | 33 => ("CableKeeperModel", "lastOut", "I", false)
  | 34 => ("CableKeeperModel", "level", "[I", true)
  | 35 => ("CableKeeperModel", "column", "[I", true)
  | 36 => ("CableKeeperModel", "laplace", "[J", true)
  | 37 => ("CableKeeperModel", "wanted", "I", false)
  | 38 => ("CableKeeperModel", "tells", "I", false)
  | 39 => ("CableKeeperModel", "found", "I", false)
  | 40 => ("CableKeeperModel", "joint", "[I", true)
  | 41 => ("CableKeeperModel", "acts", "I", false)
  | 42 => ("CableKeeperModel", "past", "[I", true)
  | 43 => ("CableKeeperModel", "noted", "I", false)
  | 44 => ("CableKeeperModel", "notedCable", "[I", true)
  | 45 => ("CableKeeperModel", "notedIn", "[I", true)
  | 46 => ("CableKeeperModel", "fitsMany", "I", false)
  | 47 => ("CableKeeperModel", "fitsLeast", "I", false)
  | 48 => ("CableKeeperModel", "inAll", "I", false)
  | 49 => ("CableKeeperModel", "inAny", "I", false)
  | 50 => ("CableKeeperModel", "seedNow", "I", false)
  | 51 => ("CableKeeperModel", "rowThen", "[I", true)
  | 52 => ("CableKeeperModel", "hasImage", "Z", false)
  | 53 => ("CableKeeperModel", "actsThen", "I", false)
  | 54 => ("CableKeeperModel", "notedThen", "I", false)
  | 55 => ("CableKeeperModel", "imageRow", "[I", true)
  | 56 => ("CableKeeperModel", "pastThen", "[I", true)
  | 57 => ("CableKeeperModel", "notedCableThen", "[I", true)
  | 58 => ("CableKeeperModel", "notedInThen", "[I", true)
  | _ => ("CableKeeperModel", "statusThen", "[I", true)
def ab_y11 : Nat → FieldType := fun k => match k with
  | 0 => .array (.object "java/lang/String")
  | 1 => .int
  | 2 => .int
  | 3 => .int
  | 4 => .array .int
  | 5 => .array .int
  | 6 => .array .int
  | 7 => .array .int
  | 8 => .int
  | 9 => .int
  | 10 => .int
  | 11 => .int
  | 12 => .int
  | 13 => .int
  | 14 => .int
  | 15 => .int
  | 16 => .int
  | 17 => .int
  | 18 => .int
  | 19 => .array .int
  | 20 => .array .int
  | 21 => .int
  | 22 => .int
  | 23 => .array .int
  | 24 => .array .int
  | 25 => .array .int
  | 26 => .int
  | 27 => .array .int
  | 28 => .array .int
  | 29 => .array .int
  | 30 => .array .boolean
  | 31 => .int
  | 32 => .int
  | 33 => .int
  | 34 => .array .int
  | 35 => .array .int
  | 36 => .array .long
  | 37 => .int
  | 38 => .int
  | 39 => .int
  | 40 => .array .int
  | 41 => .int
  | 42 => .array .int
  | 43 => .int
  | 44 => .array .int
  | 45 => .array .int
  | 46 => .int
  | 47 => .int
  | 48 => .int
  | 49 => .int
  | 50 => .int
  | 51 => .array .int
  | 52 => .boolean
  | 53 => .int
  | 54 => .int
  | 55 => .array .int
  | 56 => .array .int
  | 57 => .array .int
  | 58 => .array .int
  | _ => .array .int
def ab_R : Nat → String := fun c => match c with
  | 0 => ab_R0
  | 1 => ab_R1
  | 2 => ab_R2
  | 3 => ab_R3
  | 4 => ab_R4
  | 5 => ab_R5
  | 6 => ab_R6
  | 7 => ab_R7
  | 8 => ab_R8
  | 9 => ab_R9
  | 10 => ab_R10
  | _ => ab_R11
def ab_Tf : Nat → u_T := fun c => match c with
  | 0 => ab_T0
  | 1 => ab_T1
  | 2 => ab_T2
  | 3 => ab_T3
  | 4 => ab_T4
  | 5 => ab_T5
  | 6 => ab_T6
  | 7 => ab_T7
  | 8 => ab_T8
  | 9 => ab_T9
  | 10 => ab_T10
  | _ => ab_T11
def ab_ft : Nat → Nat → FieldType := fun c => match c with
  | 0 => ab_y0
  | 1 => ab_y1
  | 2 => ab_y2
  | 3 => ab_y3
  | 4 => ab_y4
  | 5 => ab_y5
  | 6 => ab_y6
  | 7 => ab_y7
  | 8 => ab_y8
  | 9 => ab_y9
  | 10 => ab_y10
  | _ => ab_y11
def ab_nf : Nat → Nat := fun c => match c with
  | 0 => 6
  | 1 => 8
  | 2 => 6
  | 3 => 4
  | 4 => 9
  | 5 => 5
  | 6 => 7
  | 7 => 2
  | 8 => 2
  | 9 => 5
  | 10 => 14
  | _ => 60
def ab_cl : List vw_C := [(ab_R0, ab_T0, 6), (ab_R1, ab_T1, 8), (ab_R2, ab_T2, 6), (ab_R3, ab_T3, 4), (ab_R4, ab_T4, 9), (ab_R5, ab_T5, 5), (ab_R6, ab_T6, 7), (ab_R7, ab_T7, 2), (ab_R8, ab_T8, 2), (ab_R9, ab_T9, 5), (ab_R10, ab_T10, 14), (ab_R11, ab_T11, 60)]
theorem ab_cl_at : ∀ c, c < 12 → ab_cl[c]? = some (ab_R c, ab_Tf c, ab_nf c) := by
  intro c h
  match c, h with
  | 0, _ => rfl
  | 1, _ => rfl
  | 2, _ => rfl
  | 3, _ => rfl
  | 4, _ => rfl
  | 5, _ => rfl
  | 6, _ => rfl
  | 7, _ => rfl
  | 8, _ => rfl
  | 9, _ => rfl
  | 10, _ => rfl
  | 11, _ => rfl
/-- words by their places -/
theorem ab_inp {big ws : List Cond} (ps : List Nat) (h : ws = ps.filterMap (fun i => big[i]?)) : ∀ w ∈ ws, w ∈ big := by
  intro w hw
  rw [h] at hw
  obtain ⟨i, -, hi⟩ := List.mem_filterMap.mp hw
  exact List.mem_of_getElem? hi
def ab_T : List Cond := lw_tbl.filter goodWord
theorem ab_mem {w : Cond} (i : Nat) (h : lw_tbl[i]? = some w) (g : goodWord w = true) : w ∈ ab_T := List.mem_filter.mpr ⟨List.mem_of_getElem? h, g⟩
theorem ab_inT {ws : List Cond} (ps : List Nat) (h : ws = ps.filterMap (fun i => lw_tbl[i]?)) (g : ws.all goodWord = true) : ∀ w ∈ ws, w ∈ ab_T := fun w hw => List.mem_filter.mpr ⟨ab_inp ps h w hw, List.all_eq_true.mp g w hw⟩
theorem ab_in0 : ∀ w ∈ u_ws ab_R0 ab_T0 6, w ∈ ab_T := ab_inT [280, 282, 284, 286, 288, 290] (by decide +kernel) (by decide +kernel)
theorem ab_nm0 : ∀ a, a < 6 → ∀ b, b < 6 → a ≠ b → (ab_T0 a).2.1 ≠ (ab_T0 b).2.1 := by decide +kernel
theorem ab_ty0 : ∀ k, k < 6 → parseFieldDescriptor (ab_T0 k).2.2.1 = some (ab_y0 k) := by decide +kernel
theorem ab_in1 : ∀ w ∈ u_ws ab_R1 ab_T1 8, w ∈ ab_T := ab_inT [233, 235, 237, 239, 241, 243, 245, 247] (by decide +kernel) (by decide +kernel)
theorem ab_nm1 : ∀ a, a < 8 → ∀ b, b < 8 → a ≠ b → (ab_T1 a).2.1 ≠ (ab_T1 b).2.1 := by decide +kernel
theorem ab_ty1 : ∀ k, k < 8 → parseFieldDescriptor (ab_T1 k).2.2.1 = some (ab_y1 k) := by decide +kernel
theorem ab_in2 : ∀ w ∈ u_ws ab_R2 ab_T2 6, w ∈ ab_T := ab_inT [342, 344, 346, 348, 350, 352] (by decide +kernel) (by decide +kernel)
theorem ab_nm2 : ∀ a, a < 6 → ∀ b, b < 6 → a ≠ b → (ab_T2 a).2.1 ≠ (ab_T2 b).2.1 := by decide +kernel
theorem ab_ty2 : ∀ k, k < 6 → parseFieldDescriptor (ab_T2 k).2.2.1 = some (ab_y2 k) := by decide +kernel
theorem ab_in3 : ∀ w ∈ u_ws ab_R3 ab_T3 4, w ∈ ab_T := ab_inT [411, 413, 415, 417] (by decide +kernel) (by decide +kernel)
theorem ab_nm3 : ∀ a, a < 4 → ∀ b, b < 4 → a ≠ b → (ab_T3 a).2.1 ≠ (ab_T3 b).2.1 := by decide +kernel
theorem ab_ty3 : ∀ k, k < 4 → parseFieldDescriptor (ab_T3 k).2.2.1 = some (ab_y3 k) := by decide +kernel
theorem ab_in4 : ∀ w ∈ u_ws ab_R4 ab_T4 9, w ∈ ab_T := ab_inT [777, 779, 781, 783, 785, 787, 789, 791, 793] (by decide +kernel) (by decide +kernel)
theorem ab_nm4 : ∀ a, a < 9 → ∀ b, b < 9 → a ≠ b → (ab_T4 a).2.1 ≠ (ab_T4 b).2.1 := by decide +kernel
theorem ab_ty4 : ∀ k, k < 9 → parseFieldDescriptor (ab_T4 k).2.2.1 = some (ab_y4 k) := by decide +kernel
theorem ab_in5 : ∀ w ∈ u_ws ab_R5 ab_T5 5, w ∈ ab_T := ab_inT [390, 392, 394, 396, 398] (by decide +kernel) (by decide +kernel)
theorem ab_nm5 : ∀ a, a < 5 → ∀ b, b < 5 → a ≠ b → (ab_T5 a).2.1 ≠ (ab_T5 b).2.1 := by decide +kernel
theorem ab_ty5 : ∀ k, k < 5 → parseFieldDescriptor (ab_T5 k).2.2.1 = some (ab_y5 k) := by decide +kernel
theorem ab_in6 : ∀ w ∈ u_ws ab_R6 ab_T6 7, w ∈ ab_T := ab_inT [307, 309, 311, 313, 315, 317, 319] (by decide +kernel) (by decide +kernel)
theorem ab_nm6 : ∀ a, a < 7 → ∀ b, b < 7 → a ≠ b → (ab_T6 a).2.1 ≠ (ab_T6 b).2.1 := by decide +kernel
theorem ab_ty6 : ∀ k, k < 7 → parseFieldDescriptor (ab_T6 k).2.2.1 = some (ab_y6 k) := by decide +kernel
theorem ab_in7 : ∀ w ∈ u_ws ab_R7 ab_T7 2, w ∈ ab_T := ab_inT [262, 264] (by decide +kernel) (by decide +kernel)
theorem ab_nm7 : ∀ a, a < 2 → ∀ b, b < 2 → a ≠ b → (ab_T7 a).2.1 ≠ (ab_T7 b).2.1 := by decide +kernel
theorem ab_ty7 : ∀ k, k < 2 → parseFieldDescriptor (ab_T7 k).2.2.1 = some (ab_y7 k) := by decide +kernel
theorem ab_in8 : ∀ w ∈ u_ws ab_R8 ab_T8 2, w ∈ ab_T := ab_inT [431, 433] (by decide +kernel) (by decide +kernel)
theorem ab_nm8 : ∀ a, a < 2 → ∀ b, b < 2 → a ≠ b → (ab_T8 a).2.1 ≠ (ab_T8 b).2.1 := by decide +kernel
theorem ab_ty8 : ∀ k, k < 2 → parseFieldDescriptor (ab_T8 k).2.2.1 = some (ab_y8 k) := by decide +kernel
theorem ab_in9 : ∀ w ∈ u_ws ab_R9 ab_T9 5, w ∈ ab_T := ab_inT [366, 368, 370, 372, 374] (by decide +kernel) (by decide +kernel)
theorem ab_nm9 : ∀ a, a < 5 → ∀ b, b < 5 → a ≠ b → (ab_T9 a).2.1 ≠ (ab_T9 b).2.1 := by decide +kernel
theorem ab_ty9 : ∀ k, k < 5 → parseFieldDescriptor (ab_T9 k).2.2.1 = some (ab_y9 k) := by decide +kernel
theorem ab_in10 : ∀ w ∈ u_ws ab_R10 ab_T10 14, w ∈ ab_T := ab_inT [486, 488, 490, 492, 494, 496, 498, 500, 502, 504, 506, 508, 510, 512] (by decide +kernel) (by decide +kernel)
theorem ab_nm10 : ∀ a, a < 14 → ∀ b, b < 14 → a ≠ b → (ab_T10 a).2.1 ≠ (ab_T10 b).2.1 := by decide +kernel
theorem ab_ty10 : ∀ k, k < 14 → parseFieldDescriptor (ab_T10 k).2.2.1 = some (ab_y10 k) := by decide +kernel
theorem ab_in11 : ∀ w ∈ u_ws ab_R11 ab_T11 60, w ∈ ab_T := ab_inT [1428, 1430, 1432, 1434, 1436, 1438, 1440, 1442, 1444, 1446, 1448, 1450, 1452, 1454, 1456, 1458, 1460, 1462, 1464, 1466, 1468, 1470, 1472, 1474, 1476, 1478, 1480, 1482, 1484, 1486, 1488, 1490, 1492, 1494, 1496, 1498, 1500, 1502, 1504, 1506, 1508, 1510, 1512, 1514, 1516, 1518, 1520, 1522, 1524, 1526, 1528, 1530, 1532, 1534, 1536, 1538, 1540, 1542, 1544, 1546] (by decide +kernel) (by decide +kernel)
theorem ab_nm11 : ∀ a, a < 60 → ∀ b, b < 60 → a ≠ b → (ab_T11 a).2.1 ≠ (ab_T11 b).2.1 := by decide +kernel
theorem ab_ty11 : ∀ k, k < 60 → parseFieldDescriptor (ab_T11 k).2.2.1 = some (ab_y11 k) := by decide +kernel
theorem ab_in : ∀ c, c < 12 → ∀ w ∈ u_ws (ab_R c) (ab_Tf c) (ab_nf c), w ∈ ab_T := by
  intro c h
  match c, h with
  | 0, _ => exact ab_in0
  | 1, _ => exact ab_in1
  | 2, _ => exact ab_in2
  | 3, _ => exact ab_in3
  | 4, _ => exact ab_in4
  | 5, _ => exact ab_in5
  | 6, _ => exact ab_in6
  | 7, _ => exact ab_in7
  | 8, _ => exact ab_in8
  | 9, _ => exact ab_in9
  | 10, _ => exact ab_in10
  | 11, _ => exact ab_in11
theorem ab_nm : ∀ c, c < 12 → ∀ a, a < ab_nf c → ∀ b, b < ab_nf c → a ≠ b → (ab_Tf c a).2.1 ≠ (ab_Tf c b).2.1 := by
  intro c h
  match c, h with
  | 0, _ => exact ab_nm0
  | 1, _ => exact ab_nm1
  | 2, _ => exact ab_nm2
  | 3, _ => exact ab_nm3
  | 4, _ => exact ab_nm4
  | 5, _ => exact ab_nm5
  | 6, _ => exact ab_nm6
  | 7, _ => exact ab_nm7
  | 8, _ => exact ab_nm8
  | 9, _ => exact ab_nm9
  | 10, _ => exact ab_nm10
  | 11, _ => exact ab_nm11
theorem ab_ty : ∀ c, c < 12 → ∀ k, k < ab_nf c → parseFieldDescriptor (ab_Tf c k).2.2.1 = some (ab_ft c k) := by
  intro c h
  match c, h with
  | 0, _ => exact ab_ty0
  | 1, _ => exact ab_ty1
  | 2, _ => exact ab_ty2
  | 3, _ => exact ab_ty3
  | 4, _ => exact ab_ty4
  | 5, _ => exact ab_ty5
  | 6, _ => exact ab_ty6
  | 7, _ => exact ab_ty7
  | 8, _ => exact ab_ty8
  | 9, _ => exact ab_ty9
  | 10, _ => exact ab_ty10
  | 11, _ => exact ab_ty11
