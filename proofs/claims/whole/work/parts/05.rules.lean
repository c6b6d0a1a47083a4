section ABR
variable {w : ab_Wd} {d : Nat} {me : ab_Me} {pc : Nat} {ls st : List Value} {M : ab_M} {res : ab_Re}
theorem ab_iconst {n : Int} {v : Int32} (hd : decode (ab_bc me) pc = .ok (.iconst n, 1)) (hv : Int32.ofInt n = v) (k : ab_E w d me (pc + 1) ls (.int v :: st) M res) : ab_E w d me pc ls (st) M res :=
  ab_pure (st' := .int v :: st) (fun lsA ad hx hb hL hown hts k => lv_iconst hx hb hd hv k) (fun dom n _ h => List.forall_mem_cons.mpr ⟨trivial, h⟩) k
theorem ab_bipush {n : Int} {v : Int32} (hd : decode (ab_bc me) pc = .ok (.bipush n, 2)) (hv : (Int8.ofInt n).toInt32 = v) (k : ab_E w d me (pc + 2) ls (.int v :: st) M res) : ab_E w d me pc ls (st) M res :=
  ab_pure (st' := .int v :: st) (fun lsA ad hx hb hL hown hts k => lv_bipush hx hb hd hv k) (fun dom n _ h => List.forall_mem_cons.mpr ⟨trivial, h⟩) k
theorem ab_sipush {n : Int} {v : Int32} (hd : decode (ab_bc me) pc = .ok (.sipush n, 3)) (hv : (Int16.ofInt n).toInt32 = v) (k : ab_E w d me (pc + 3) ls (.int v :: st) M res) : ab_E w d me pc ls (st) M res :=
  ab_pure (st' := .int v :: st) (fun lsA ad hx hb hL hown hts k => lv_sipush hx hb hd hv k) (fun dom n _ h => List.forall_mem_cons.mpr ⟨trivial, h⟩) k
theorem ab_lconst {n : Fin 2} {v : Int64} (hd : decode (ab_bc me) pc = .ok (.lconst n, 1)) (hv : Int64.ofNat (n : Nat) = v) (k : ab_E w d me (pc + 1) ls (.long v :: st) M res) : ab_E w d me pc ls (st) M res :=
  ab_pure (st' := .long v :: st) (fun lsA ad hx hb hL hown hts k => lv_lconst hx hb hd hv k) (fun dom n _ h => List.forall_mem_cons.mpr ⟨trivial, h⟩) k
theorem ab_ldc {i : Nat} {v : Int32} (hd : decode (ab_bc me) pc = .ok (.ldc i, 2)) (hw : Cond.constant me.1.cls i v ∈ ab_T) (k : ab_E w d me (pc + 2) ls (.int v :: st) M res) : ab_E w d me pc ls (st) M res :=
  ab_pure (st' := .int v :: st) (fun lsA ad hx hb hL hown hts k => lv_ldc hx hb hown (hts _ hw) hd k) (fun dom n _ h => List.forall_mem_cons.mpr ⟨trivial, h⟩) k
theorem ab_ldcw {i : Nat} {v : Int32} (hd : decode (ab_bc me) pc = .ok (.ldc_w i, 3)) (hw : Cond.constant me.1.cls i v ∈ ab_T) (k : ab_E w d me (pc + 3) ls (.int v :: st) M res) : ab_E w d me pc ls (st) M res :=
  ab_pure (st' := .int v :: st) (fun lsA ad hx hb hL hown hts k => lv_ldcw hx hb hown (hts _ hw) hd k) (fun dom n _ h => List.forall_mem_cons.mpr ⟨trivial, h⟩) k
theorem ab_ldc2 {i : Nat} {v : Int64} (hd : decode (ab_bc me) pc = .ok (.ldc2_w i, 3)) (hw : Cond.constantLong me.1.cls i v ∈ ab_T) (k : ab_E w d me (pc + 3) ls (.long v :: st) M res) : ab_E w d me pc ls (st) M res :=
  ab_pure (st' := .long v :: st) (fun lsA ad hx hb hL hown hts k => lv_ldc2 hx hb hown (hts _ hw) hd k) (fun dom n _ h => List.forall_mem_cons.mpr ⟨trivial, h⟩) k
theorem ab_iload_n {j : Fin 4} {i : Nat} {x : Int32} (hd : decode (ab_bc me) pc = .ok (.iload_n j, 1)) (hj : (j : Nat) = i) (hl : ls[i]? = some (.int x)) (k : ab_E w d me (pc + 1) ls (.int x :: st) M res) : ab_E w d me pc ls (st) M res :=
  ab_pure (st' := .int x :: st) (fun lsA ad hx hb hL hown hts k => lv_iload_n hx hb hd hj (hL i _ hl (fun h => by cases h)) k) (fun dom n _ h => List.forall_mem_cons.mpr ⟨trivial, h⟩) k
theorem ab_iload {i : Nat} {x : Int32} (hd : decode (ab_bc me) pc = .ok (.iload i, 2)) (hl : ls[i]? = some (.int x)) (k : ab_E w d me (pc + 2) ls (.int x :: st) M res) : ab_E w d me pc ls (st) M res :=
  ab_pure (st' := .int x :: st) (fun lsA ad hx hb hL hown hts k => lv_iload hx hb hd (hL i _ hl (fun h => by cases h)) k) (fun dom n _ h => List.forall_mem_cons.mpr ⟨trivial, h⟩) k
theorem ab_lload_n {j : Fin 4} {i : Nat} {x : Int64} (hd : decode (ab_bc me) pc = .ok (.lload_n j, 1)) (hj : (j : Nat) = i) (hl : ls[i]? = some (.long x)) (k : ab_E w d me (pc + 1) ls (.long x :: st) M res) : ab_E w d me pc ls (st) M res :=
  ab_pure (st' := .long x :: st) (fun lsA ad hx hb hL hown hts k => lv_lload_n hx hb hd hj (hL i _ hl (fun h => by cases h)) k) (fun dom n _ h => List.forall_mem_cons.mpr ⟨trivial, h⟩) k
theorem ab_lload {i : Nat} {x : Int64} (hd : decode (ab_bc me) pc = .ok (.lload i, 2)) (hl : ls[i]? = some (.long x)) (k : ab_E w d me (pc + 2) ls (.long x :: st) M res) : ab_E w d me pc ls (st) M res :=
  ab_pure (st' := .long x :: st) (fun lsA ad hx hb hL hown hts k => lv_lload hx hb hd (hL i _ hl (fun h => by cases h)) k) (fun dom n _ h => List.forall_mem_cons.mpr ⟨trivial, h⟩) k
theorem ab_aload_n {j : Fin 4} {i : Nat} {x : Nat} (hd : decode (ab_bc me) pc = .ok (.aload_n j, 1)) (hj : (j : Nat) = i) (hl : ls[i]? = some (.ref x)) (k : ab_E w d me (pc + 1) ls (.ref x :: st) M res) : ab_E w d me pc ls (st) M res :=
  ab_pure (st' := .ref x :: st) (fun lsA ad hx hb hL hown hts k => lv_aload_n hx hb hd hj (hL i _ hl (fun h => by cases h)) k) (fun dom n g h => List.forall_mem_cons.mpr ⟨g _ (List.mem_of_getElem? hl), h⟩) k
theorem ab_aload {i : Nat} {x : Nat} (hd : decode (ab_bc me) pc = .ok (.aload i, 2)) (hl : ls[i]? = some (.ref x)) (k : ab_E w d me (pc + 2) ls (.ref x :: st) M res) : ab_E w d me pc ls (st) M res :=
  ab_pure (st' := .ref x :: st) (fun lsA ad hx hb hL hown hts k => lv_aload hx hb hd (hL i _ hl (fun h => by cases h)) k) (fun dom n g h => List.forall_mem_cons.mpr ⟨g _ (List.mem_of_getElem? hl), h⟩) k
theorem ab_iadd {x y : Int32} (hd : decode (ab_bc me) pc = .ok (.iadd, 1)) (k : ab_E w d me (pc + 1) ls (.int (x + y) :: st) M res) : ab_E w d me pc ls (.int y :: .int x :: st) M res :=
  ab_pure (st' := .int (x + y) :: st) (fun lsA ad hx hb hL hown hts k => lv_iadd hx hb hd k) (fun dom n _ h => List.forall_mem_cons.mpr ⟨trivial, (List.forall_mem_cons.mp (List.forall_mem_cons.mp h).2).2⟩) k
theorem ab_isub {x y : Int32} (hd : decode (ab_bc me) pc = .ok (.isub, 1)) (k : ab_E w d me (pc + 1) ls (.int (x - y) :: st) M res) : ab_E w d me pc ls (.int y :: .int x :: st) M res :=
  ab_pure (st' := .int (x - y) :: st) (fun lsA ad hx hb hL hown hts k => lv_isub hx hb hd k) (fun dom n _ h => List.forall_mem_cons.mpr ⟨trivial, (List.forall_mem_cons.mp (List.forall_mem_cons.mp h).2).2⟩) k
theorem ab_imul {x y : Int32} (hd : decode (ab_bc me) pc = .ok (.imul, 1)) (k : ab_E w d me (pc + 1) ls (.int (x * y) :: st) M res) : ab_E w d me pc ls (.int y :: .int x :: st) M res :=
  ab_pure (st' := .int (x * y) :: st) (fun lsA ad hx hb hL hown hts k => lv_imul hx hb hd k) (fun dom n _ h => List.forall_mem_cons.mpr ⟨trivial, (List.forall_mem_cons.mp (List.forall_mem_cons.mp h).2).2⟩) k
theorem ab_iand {x y : Int32} (hd : decode (ab_bc me) pc = .ok (.iand, 1)) (k : ab_E w d me (pc + 1) ls (.int (x &&& y) :: st) M res) : ab_E w d me pc ls (.int y :: .int x :: st) M res :=
  ab_pure (st' := .int (x &&& y) :: st) (fun lsA ad hx hb hL hown hts k => lv_iand hx hb hd k) (fun dom n _ h => List.forall_mem_cons.mpr ⟨trivial, (List.forall_mem_cons.mp (List.forall_mem_cons.mp h).2).2⟩) k
theorem ab_ior {x y : Int32} (hd : decode (ab_bc me) pc = .ok (.ior, 1)) (k : ab_E w d me (pc + 1) ls (.int (x ||| y) :: st) M res) : ab_E w d me pc ls (.int y :: .int x :: st) M res :=
  ab_pure (st' := .int (x ||| y) :: st) (fun lsA ad hx hb hL hown hts k => lv_ior hx hb hd k) (fun dom n _ h => List.forall_mem_cons.mpr ⟨trivial, (List.forall_mem_cons.mp (List.forall_mem_cons.mp h).2).2⟩) k
theorem ab_ixor {x y : Int32} (hd : decode (ab_bc me) pc = .ok (.ixor, 1)) (k : ab_E w d me (pc + 1) ls (.int (x ^^^ y) :: st) M res) : ab_E w d me pc ls (.int y :: .int x :: st) M res :=
  ab_pure (st' := .int (x ^^^ y) :: st) (fun lsA ad hx hb hL hown hts k => lv_ixor hx hb hd k) (fun dom n _ h => List.forall_mem_cons.mpr ⟨trivial, (List.forall_mem_cons.mp (List.forall_mem_cons.mp h).2).2⟩) k
theorem ab_ishl {x y : Int32} (hd : decode (ab_bc me) pc = .ok (.ishl, 1)) (k : ab_E w d me (pc + 1) ls (.int (x <<< (y &&& 31)) :: st) M res) : ab_E w d me pc ls (.int y :: .int x :: st) M res :=
  ab_pure (st' := .int (x <<< (y &&& 31)) :: st) (fun lsA ad hx hb hL hown hts k => lv_ishl hx hb hd k) (fun dom n _ h => List.forall_mem_cons.mpr ⟨trivial, (List.forall_mem_cons.mp (List.forall_mem_cons.mp h).2).2⟩) k
theorem ab_ishr {x y : Int32} (hd : decode (ab_bc me) pc = .ok (.ishr, 1)) (k : ab_E w d me (pc + 1) ls (.int (x >>> (y &&& 31)) :: st) M res) : ab_E w d me pc ls (.int y :: .int x :: st) M res :=
  ab_pure (st' := .int (x >>> (y &&& 31)) :: st) (fun lsA ad hx hb hL hown hts k => lv_ishr hx hb hd k) (fun dom n _ h => List.forall_mem_cons.mpr ⟨trivial, (List.forall_mem_cons.mp (List.forall_mem_cons.mp h).2).2⟩) k
theorem ab_idiv {x y : Int32} (hd : decode (ab_bc me) pc = .ok (.idiv, 1)) (hn : ¬ y = 0) (k : ab_E w d me (pc + 1) ls (.int (x / y) :: st) M res) : ab_E w d me pc ls (.int y :: .int x :: st) M res :=
  ab_pure (st' := .int (x / y) :: st) (fun lsA ad hx hb hL hown hts k => lv_idiv hx hb hd hn k) (fun dom n _ h => List.forall_mem_cons.mpr ⟨trivial, (List.forall_mem_cons.mp (List.forall_mem_cons.mp h).2).2⟩) k
theorem ab_irem {x y : Int32} (hd : decode (ab_bc me) pc = .ok (.irem, 1)) (hn : ¬ y = 0) (k : ab_E w d me (pc + 1) ls (.int (x - x / y * y) :: st) M res) : ab_E w d me pc ls (.int y :: .int x :: st) M res :=
  ab_pure (st' := .int (x - x / y * y) :: st) (fun lsA ad hx hb hL hown hts k => lv_irem hx hb hd hn k) (fun dom n _ h => List.forall_mem_cons.mpr ⟨trivial, (List.forall_mem_cons.mp (List.forall_mem_cons.mp h).2).2⟩) k
theorem ab_iushr {x y v : Int32} (hd : decode (ab_bc me) pc = .ok (.iushr, 1)) (hv : (x.toUInt32 >>> (y.toUInt32 &&& Int32.toUInt32 31)).toInt32 = v) (k : ab_E w d me (pc + 1) ls (.int v :: st) M res) : ab_E w d me pc ls (.int y :: .int x :: st) M res :=
  ab_pure (st' := .int v :: st) (fun lsA ad hx hb hL hown hts k => lv_iushr hx hb hd hv k) (fun dom n _ h => List.forall_mem_cons.mpr ⟨trivial, (List.forall_mem_cons.mp (List.forall_mem_cons.mp h).2).2⟩) k
theorem ab_ladd {x y : Int64} (hd : decode (ab_bc me) pc = .ok (.ladd, 1)) (k : ab_E w d me (pc + 1) ls (.long (x + y) :: st) M res) : ab_E w d me pc ls (.long y :: .long x :: st) M res :=
  ab_pure (st' := .long (x + y) :: st) (fun lsA ad hx hb hL hown hts k => lv_ladd hx hb hd k) (fun dom n _ h => List.forall_mem_cons.mpr ⟨trivial, (List.forall_mem_cons.mp (List.forall_mem_cons.mp h).2).2⟩) k
theorem ab_lsub {x y : Int64} (hd : decode (ab_bc me) pc = .ok (.lsub, 1)) (k : ab_E w d me (pc + 1) ls (.long (x - y) :: st) M res) : ab_E w d me pc ls (.long y :: .long x :: st) M res :=
  ab_pure (st' := .long (x - y) :: st) (fun lsA ad hx hb hL hown hts k => lv_lsub hx hb hd k) (fun dom n _ h => List.forall_mem_cons.mpr ⟨trivial, (List.forall_mem_cons.mp (List.forall_mem_cons.mp h).2).2⟩) k
theorem ab_lmul {x y : Int64} (hd : decode (ab_bc me) pc = .ok (.lmul, 1)) (k : ab_E w d me (pc + 1) ls (.long (x * y) :: st) M res) : ab_E w d me pc ls (.long y :: .long x :: st) M res :=
  ab_pure (st' := .long (x * y) :: st) (fun lsA ad hx hb hL hown hts k => lv_lmul hx hb hd k) (fun dom n _ h => List.forall_mem_cons.mpr ⟨trivial, (List.forall_mem_cons.mp (List.forall_mem_cons.mp h).2).2⟩) k
theorem ab_ldiv {x y : Int64} (hd : decode (ab_bc me) pc = .ok (.ldiv, 1)) (hn : ¬ y = 0) (k : ab_E w d me (pc + 1) ls (.long (x / y) :: st) M res) : ab_E w d me pc ls (.long y :: .long x :: st) M res :=
  ab_pure (st' := .long (x / y) :: st) (fun lsA ad hx hb hL hown hts k => lv_ldiv hx hb hd hn k) (fun dom n _ h => List.forall_mem_cons.mpr ⟨trivial, (List.forall_mem_cons.mp (List.forall_mem_cons.mp h).2).2⟩) k
theorem ab_lneg {x : Int64} (hd : decode (ab_bc me) pc = .ok (.lneg, 1)) (k : ab_E w d me (pc + 1) ls (.long (-x) :: st) M res) : ab_E w d me pc ls (.long x :: st) M res :=
  ab_pure (st' := .long (-x) :: st) (fun lsA ad hx hb hL hown hts k => lv_lneg hx hb hd k) (fun dom n _ h => List.forall_mem_cons.mpr ⟨trivial, (List.forall_mem_cons.mp h).2⟩) k
theorem ab_lcmp {x y : Int64} (hd : decode (ab_bc me) pc = .ok (.lcmp, 1)) (k : ab_E w d me (pc + 1) ls (.int (lg_cmp x y) :: st) M res) : ab_E w d me pc ls (.long y :: .long x :: st) M res :=
  ab_pure (st' := .int (lg_cmp x y) :: st) (fun lsA ad hx hb hL hown hts k => W.lcmp hx hb hd k) (fun dom n _ h => List.forall_mem_cons.mpr ⟨trivial, (List.forall_mem_cons.mp (List.forall_mem_cons.mp h).2).2⟩) k
theorem ab_i2l {x : Int32} (hd : decode (ab_bc me) pc = .ok (.i2l, 1)) (k : ab_E w d me (pc + 1) ls (.long x.toInt64 :: st) M res) : ab_E w d me pc ls (.int x :: st) M res :=
  ab_pure (st' := .long x.toInt64 :: st) (fun lsA ad hx hb hL hown hts k => lv_i2l hx hb hd rfl k) (fun dom n _ h => List.forall_mem_cons.mpr ⟨trivial, (List.forall_mem_cons.mp h).2⟩) k
theorem ab_i2b {x : Int32} (hd : decode (ab_bc me) pc = .ok (.i2b, 1)) (k : ab_E w d me (pc + 1) ls (.int x.toInt8.toInt32 :: st) M res) : ab_E w d me pc ls (.int x :: st) M res :=
  ab_pure (st' := .int x.toInt8.toInt32 :: st) (fun lsA ad hx hb hL hown hts k => lv_i2b hx hb hd rfl k) (fun dom n _ h => List.forall_mem_cons.mpr ⟨trivial, (List.forall_mem_cons.mp h).2⟩) k
theorem ab_i2c {x v : Int32} (hd : decode (ab_bc me) pc = .ok (.i2c, 1)) (hv : (x.toUInt32 % 65536).toInt32 = v) (k : ab_E w d me (pc + 1) ls (.int v :: st) M res) : ab_E w d me pc ls (.int x :: st) M res :=
  ab_pure (st' := .int v :: st) (fun lsA ad hx hb hL hown hts k => lv_i2c hx hb hd hv k) (fun dom n _ h => List.forall_mem_cons.mpr ⟨trivial, (List.forall_mem_cons.mp h).2⟩) k
theorem ab_dupi {x : Int32} (hd : decode (ab_bc me) pc = .ok (.dup, 1)) (k : ab_E w d me (pc + 1) ls (.int x :: .int x :: st) M res) : ab_E w d me pc ls (.int x :: st) M res :=
  ab_pure (st' := .int x :: .int x :: st) (fun lsA ad hx hb hL hown hts k => lv_dup hx hb hd rfl k) (fun dom n _ h => List.forall_mem_cons.mpr ⟨trivial, h⟩) k
theorem ab_dupr {x : Nat} (hd : decode (ab_bc me) pc = .ok (.dup, 1)) (k : ab_E w d me (pc + 1) ls (.ref x :: .ref x :: st) M res) : ab_E w d me pc ls (.ref x :: st) M res :=
  ab_pure (st' := .ref x :: .ref x :: st) (fun lsA ad hx hb hL hown hts k => lv_dup hx hb hd rfl k) (fun dom n _ h => List.forall_mem_cons.mpr ⟨(List.forall_mem_cons.mp h).1, h⟩) k
theorem ab_dup2 {x : Int32} {a : Nat} (hd : decode (ab_bc me) pc = .ok (.dup2, 1)) (k : ab_E w d me (pc + 1) ls (.int x :: .ref a :: .int x :: .ref a :: st) M res) : ab_E w d me pc ls (.int x :: .ref a :: st) M res :=
  ab_pure (st' := .int x :: .ref a :: .int x :: .ref a :: st) (fun lsA ad hx hb hL hown hts k => lv_dup2_11 hx hb hd rfl rfl k) (fun dom n _ h => List.forall_mem_cons.mpr ⟨trivial, List.forall_mem_cons.mpr ⟨(List.forall_mem_cons.mp (List.forall_mem_cons.mp h).2).1, h⟩⟩) k
theorem ab_popi {x : Int32} (hd : decode (ab_bc me) pc = .ok (.pop, 1)) (k : ab_E w d me (pc + 1) ls (st) M res) : ab_E w d me pc ls (.int x :: st) M res :=
  ab_pure (st' := st) (fun lsA ad hx hb hL hown hts k => lv_pop hx hb hd rfl k) (fun dom n _ h => (List.forall_mem_cons.mp h).2) k
theorem ab_popr {x : Nat} (hd : decode (ab_bc me) pc = .ok (.pop, 1)) (k : ab_E w d me (pc + 1) ls (st) M res) : ab_E w d me pc ls (.ref x :: st) M res :=
  ab_pure (st' := st) (fun lsA ad hx hb hL hown hts k => lv_pop hx hb hd rfl k) (fun dom n _ h => (List.forall_mem_cons.mp h).2) k
theorem ab_goto {off : Int} {tgt : Nat} (hd : decode (ab_bc me) pc = .ok (.goto off, 3)) (ht : (pc : Int) + off = (tgt : Int)) (k : ab_E w d me (tgt) ls (st) M res) : ab_E w d me pc ls (st) M res :=
  ab_pure (st' := st) (fun lsA ad hx hb hL hown hts k => lv_goto hx hb hd ht k) (fun dom n _ h => h) k
theorem ab_tabOut {dflt lo hi : Int} {offs : Array Int} {len : Nat} {x : Int32} {tgt : Nat} (hd : decode (ab_bc me) pc = .ok (.tableswitch dflt lo hi offs, len)) (h : x.toInt < lo ∨ hi < x.toInt) (ht : (pc : Int) + dflt = (tgt : Int)) (k : ab_E w d me (tgt) ls (st) M res) : ab_E w d me pc ls (.int x :: st) M res :=
  ab_pure (st' := st) (fun lsA ad hx hb hL hown hts k => lv_tableOut hx hb hd h ht k) (fun dom n _ h => (List.forall_mem_cons.mp h).2) k
theorem ab_tabIn {dflt lo hi : Int} {offs : Array Int} {len : Nat} {x : Int32} {off : Int} {tgt : Nat} (hd : decode (ab_bc me) pc = .ok (.tableswitch dflt lo hi offs, len)) (h1 : ¬ x.toInt < lo) (h2 : ¬ hi < x.toInt) (ho : offs[(x.toInt - lo).toNat]? = some off) (ht : (pc : Int) + off = (tgt : Int)) (k : ab_E w d me (tgt) ls (st) M res) : ab_E w d me pc ls (.int x :: st) M res :=
  ab_pure (st' := st) (fun lsA ad hx hb hL hown hts k => lv_tableIn hx hb hd h1 h2 ho ht k) (fun dom n _ h => (List.forall_mem_cons.mp h).2) k
theorem ab_look {dflt : Int} {ps : Array (Int × Int)} {len : Nat} {x : Int32} {off : Int} {tgt : Nat} (hd : decode (ab_bc me) pc = .ok (.lookupswitch dflt ps, len)) (hp : (ps.toList.zip (ps.toList.drop 1)).all (fun (a, next) => a.1 < next.1) = true) (ho : Op.lookupswitch.offset ps.toList dflt x.toInt = off) (ht : (pc : Int) + off = (tgt : Int)) (k : ab_E w d me (tgt) ls (st) M res) : ab_E w d me pc ls (.int x :: st) M res :=
  ab_pure (st' := st) (fun lsA ad hx hb hL hown hts k => lv_lookup hx hb hd hp ho ht k) (fun dom n _ h => (List.forall_mem_cons.mp h).2) k
/-- a branch: both ways -/
theorem ab_br {c9 : Prop} {st' : List Value} {tgt pc' : Nat} (hr : ∀ {p : Program} {l : Launch} {e : Env} {R : Room} {s : State} {m : MethodId} {args : Array Value} {below : List Frame} {meth : Method} {c : Code} {H : Heap} {locs : List Loc} {cells slots : Nat} {Q : State → Prop} (lsA : Array Slot) (ad : Nat → Nat), p.tables.exec = Jvm.exec → c.code = ab_bc me →
      (c9 → W p l e R s m args below meth c H locs cells slots Q (F0 m tgt lsA (st'.map (ab_v ad)))) → (¬ c9 → W p l e R s m args below meth c H locs cells slots Q (F0 m pc' lsA (st'.map (ab_v ad)))) → W p l e R s m args below meth c H locs cells slots Q (F0 m pc lsA (st.map (ab_v ad))))
    (hok : ∀ (dom : List Nat) (n : Nat), (∀ v ∈ st, ab_ok dom n v) → ∀ v ∈ st', ab_ok dom n v) (kt : c9 → ab_E w d me tgt ls st' M res) (kf : ¬ c9 → ab_E w d me pc' ls st' M res) : ab_E w d me pc ls st M res := by
  intro p e R s m args below meth c C n0 dom0 ad0 cA0 c0 s0 ad cA dom H locs lsA cells slots At
  obtain ⟨a1, a2, a3, a4, a5, a6, a7, a8, a9, a10, a11⟩ := At
  have At' := And.intro a1 (And.intro a2 (And.intro a3 (And.intro a4 (And.intro (hok dom _ a5) (And.intro a6 (And.intro a7 (And.intro a8 (And.intro a9 (And.intro a10 a11)))))))))
  exact hr lsA ad C.1 C.2.1 (fun h => kt h p e R s m args below meth c C n0 dom0 ad0 cA0 c0 s0 ad cA dom H locs lsA cells slots At') (fun h => kf h p e R s m args below meth c C n0 dom0 ad0 cA0 c0 s0 ad cA dom H locs lsA cells slots At')
theorem ab_if_eq {x : Int32} {off : Int} {tgt : Nat} (hd : decode (ab_bc me) pc = .ok (.ifCond .eq off, 3)) (ht : (pc : Int) + off = (tgt : Int)) (kt : x = 0 → ab_E w d me tgt ls st M res) (kf : ¬ x = 0 → ab_E w d me (pc + 3) ls st M res) : ab_E w d me pc ls (.int x :: st) M res :=
  ab_br (fun lsA ad hx hb k1 k2 => lv_if_eq hx hb hd ht k1 k2) (fun dom n h => (List.forall_mem_cons.mp h).2) kt kf
theorem ab_icmp_eq {x y : Int32} {off : Int} {tgt : Nat} (hd : decode (ab_bc me) pc = .ok (.if_icmp .eq off, 3)) (ht : (pc : Int) + off = (tgt : Int)) (kt : x = y → ab_E w d me tgt ls st M res) (kf : ¬ x = y → ab_E w d me (pc + 3) ls st M res) : ab_E w d me pc ls (.int y :: .int x :: st) M res :=
  ab_br (fun lsA ad hx hb k1 k2 => lv_icmp_eq hx hb hd ht k1 k2) (fun dom n h => (List.forall_mem_cons.mp (List.forall_mem_cons.mp h).2).2) kt kf
theorem ab_if_ne {x : Int32} {off : Int} {tgt : Nat} (hd : decode (ab_bc me) pc = .ok (.ifCond .ne off, 3)) (ht : (pc : Int) + off = (tgt : Int)) (kt : ¬ x = 0 → ab_E w d me tgt ls st M res) (kf : x = 0 → ab_E w d me (pc + 3) ls st M res) : ab_E w d me pc ls (.int x :: st) M res :=
  ab_br (fun lsA ad hx hb k1 k2 => lv_if_ne hx hb hd ht k1 (fun h => k2 (fun h9 => h9 h))) (fun dom n h => (List.forall_mem_cons.mp h).2) kt (fun h => kf (Classical.not_not.mp h))
theorem ab_icmp_ne {x y : Int32} {off : Int} {tgt : Nat} (hd : decode (ab_bc me) pc = .ok (.if_icmp .ne off, 3)) (ht : (pc : Int) + off = (tgt : Int)) (kt : ¬ x = y → ab_E w d me tgt ls st M res) (kf : x = y → ab_E w d me (pc + 3) ls st M res) : ab_E w d me pc ls (.int y :: .int x :: st) M res :=
  ab_br (fun lsA ad hx hb k1 k2 => lv_icmp_ne hx hb hd ht k1 (fun h => k2 (fun h9 => h9 h))) (fun dom n h => (List.forall_mem_cons.mp (List.forall_mem_cons.mp h).2).2) kt (fun h => kf (Classical.not_not.mp h))
theorem ab_if_lt {x : Int32} {off : Int} {tgt : Nat} (hd : decode (ab_bc me) pc = .ok (.ifCond .lt off, 3)) (ht : (pc : Int) + off = (tgt : Int)) (kt : x < 0 → ab_E w d me tgt ls st M res) (kf : ¬ x < 0 → ab_E w d me (pc + 3) ls st M res) : ab_E w d me pc ls (.int x :: st) M res :=
  ab_br (fun lsA ad hx hb k1 k2 => lv_if_lt hx hb hd ht k1 k2) (fun dom n h => (List.forall_mem_cons.mp h).2) kt kf
theorem ab_icmp_lt {x y : Int32} {off : Int} {tgt : Nat} (hd : decode (ab_bc me) pc = .ok (.if_icmp .lt off, 3)) (ht : (pc : Int) + off = (tgt : Int)) (kt : x < y → ab_E w d me tgt ls st M res) (kf : ¬ x < y → ab_E w d me (pc + 3) ls st M res) : ab_E w d me pc ls (.int y :: .int x :: st) M res :=
  ab_br (fun lsA ad hx hb k1 k2 => lv_icmp_lt hx hb hd ht k1 k2) (fun dom n h => (List.forall_mem_cons.mp (List.forall_mem_cons.mp h).2).2) kt kf
theorem ab_if_ge {x : Int32} {off : Int} {tgt : Nat} (hd : decode (ab_bc me) pc = .ok (.ifCond .ge off, 3)) (ht : (pc : Int) + off = (tgt : Int)) (kt : 0 ≤ x → ab_E w d me tgt ls st M res) (kf : ¬ 0 ≤ x → ab_E w d me (pc + 3) ls st M res) : ab_E w d me pc ls (.int x :: st) M res :=
  ab_br (fun lsA ad hx hb k1 k2 => lv_if_ge hx hb hd ht k1 k2) (fun dom n h => (List.forall_mem_cons.mp h).2) kt kf
theorem ab_icmp_ge {x y : Int32} {off : Int} {tgt : Nat} (hd : decode (ab_bc me) pc = .ok (.if_icmp .ge off, 3)) (ht : (pc : Int) + off = (tgt : Int)) (kt : y ≤ x → ab_E w d me tgt ls st M res) (kf : ¬ y ≤ x → ab_E w d me (pc + 3) ls st M res) : ab_E w d me pc ls (.int y :: .int x :: st) M res :=
  ab_br (fun lsA ad hx hb k1 k2 => lv_icmp_ge hx hb hd ht k1 k2) (fun dom n h => (List.forall_mem_cons.mp (List.forall_mem_cons.mp h).2).2) kt kf
theorem ab_if_gt {x : Int32} {off : Int} {tgt : Nat} (hd : decode (ab_bc me) pc = .ok (.ifCond .gt off, 3)) (ht : (pc : Int) + off = (tgt : Int)) (kt : 0 < x → ab_E w d me tgt ls st M res) (kf : ¬ 0 < x → ab_E w d me (pc + 3) ls st M res) : ab_E w d me pc ls (.int x :: st) M res :=
  ab_br (fun lsA ad hx hb k1 k2 => lv_if_gt hx hb hd ht k1 k2) (fun dom n h => (List.forall_mem_cons.mp h).2) kt kf
theorem ab_icmp_gt {x y : Int32} {off : Int} {tgt : Nat} (hd : decode (ab_bc me) pc = .ok (.if_icmp .gt off, 3)) (ht : (pc : Int) + off = (tgt : Int)) (kt : y < x → ab_E w d me tgt ls st M res) (kf : ¬ y < x → ab_E w d me (pc + 3) ls st M res) : ab_E w d me pc ls (.int y :: .int x :: st) M res :=
  ab_br (fun lsA ad hx hb k1 k2 => lv_icmp_gt hx hb hd ht k1 k2) (fun dom n h => (List.forall_mem_cons.mp (List.forall_mem_cons.mp h).2).2) kt kf
theorem ab_if_le {x : Int32} {off : Int} {tgt : Nat} (hd : decode (ab_bc me) pc = .ok (.ifCond .le off, 3)) (ht : (pc : Int) + off = (tgt : Int)) (kt : x ≤ 0 → ab_E w d me tgt ls st M res) (kf : ¬ x ≤ 0 → ab_E w d me (pc + 3) ls st M res) : ab_E w d me pc ls (.int x :: st) M res :=
  ab_br (fun lsA ad hx hb k1 k2 => lv_if_le hx hb hd ht k1 k2) (fun dom n h => (List.forall_mem_cons.mp h).2) kt kf
theorem ab_icmp_le {x y : Int32} {off : Int} {tgt : Nat} (hd : decode (ab_bc me) pc = .ok (.if_icmp .le off, 3)) (ht : (pc : Int) + off = (tgt : Int)) (kt : x ≤ y → ab_E w d me tgt ls st M res) (kf : ¬ x ≤ y → ab_E w d me (pc + 3) ls st M res) : ab_E w d me pc ls (.int y :: .int x :: st) M res :=
  ab_br (fun lsA ad hx hb k1 k2 => lv_icmp_le hx hb hd ht k1 k2) (fun dom n h => (List.forall_mem_cons.mp (List.forall_mem_cons.mp h).2).2) kt kf
/-- what is known of the locals, as pairs -/
def ab_pl (ad : Nat → Nat) (ls : List Value) : List (Nat × Value) := (List.range ls.length).filterMap (fun j => match ls[j]? with
  | some Value.null => none
  | some v => some (j, ab_v ad v)
  | none => none)
theorem ab_pl_of {ad : Nat → Nat} {ls : List Value} {q : Nat × Value} (h : q ∈ ab_pl ad ls) : ∃ v, ls[q.1]? = some v ∧ v ≠ .null ∧ q.2 = ab_v ad v := by
  obtain ⟨j, -, hj⟩ := List.mem_filterMap.mp h
  cases hv : ls[j]? with
  | none => rw [hv] at hj; cases hj
  | some v =>
    rw [hv] at hj
    cases v <;> first | (cases hj; exact ⟨_, hv, (fun h => by cases h), rfl⟩) | cases hj
theorem ab_pl_to {ad : Nat → Nat} {ls : List Value} {j : Nat} {v : Value} (h : ls[j]? = some v) (hn : v ≠ .null) : (j, ab_v ad v) ∈ ab_pl ad ls := by
  refine List.mem_filterMap.mpr ⟨j, List.mem_range.mpr (List.getElem?_eq_some_iff.mp h).1, ?_⟩
  rw [h]
  cases v <;> first | rfl | exact absurd rfl hn
theorem ab_pl_has {ad : Nat → Nat} {ls : List Value} {lsA : Array Slot} {n : Nat} (h : ab_Lo ad ls lsA n) : lv_has lsA n (ab_pl ad ls) := by
  refine ⟨h.1, h.2.1, fun q hq => ?_⟩
  obtain ⟨v, h1, h2, h3⟩ := ab_pl_of hq
  rw [h3]
  exact h.2.2.2 _ _ h1 h2
theorem ab_v_cat (ad : Nat → Nat) (v : Value) : (ab_v ad v).category = v.category := by cases v <;> rfl
theorem ab_Lo_st {ad : Nat → Nat} {ls : List Value} {lsA lsB : Array Slot} {n i : Nat} {v : Value} (h : ab_Lo ad ls lsA n) (hi : i < n) (hg : i = 0 ∨ (ls.getD (i - 1) .null).category = 1)
    (hB : lv_has lsB n ((i, ab_v ad v) :: (ab_pl ad ls).filter (fun q => !(q.1 == i) && !(q.1 + 1 == i && q.2.category == 2)))) : ab_Lo ad (ls.set i v) lsB n := by
  refine ⟨hB.1, hB.2.1, by rw [List.length_set]; exact h.2.2.1, fun j u hj hu => ?_⟩
  by_cases e : i = j
  · subst e
    rw [List.getElem?_set_self (by rw [h.2.2.1]; exact hi)] at hj
    cases hj
    exact hB.2.2 _ List.mem_cons_self
  · rw [List.getElem?_set_ne e] at hj
    refine hB.2.2 (j, ab_v ad u) (List.mem_cons_of_mem _ (List.mem_filter.mpr ⟨ab_pl_to hj hu, ?_⟩))
    have e1 : (j == i) = false := by simp; omega
    by_cases e2 : j + 1 = i
    · have e3 : (ls.getD (i - 1) .null).category = 1 := hg.resolve_left (by omega)
      have e4 : i - 1 = j := by omega
      rw [e4, List.getD_eq_getElem?_getD, hj] at e3
      have e5 : (ab_v ad u).category = 1 := by rw [ab_v_cat]; exact e3
      simp [e1, e5]
    · simp [e1, e2]
theorem ab_Lo_st2 {ad : Nat → Nat} {ls : List Value} {lsA lsB : Array Slot} {n i : Nat} {v : Value} (h : ab_Lo ad ls lsA n) (hi : i + 1 < n) (hg : i = 0 ∨ (ls.getD (i - 1) .null).category = 1)
    (hB : lv_has lsB n ((i, ab_v ad v) :: (ab_pl ad ls).filter (fun q => !(q.1 == i) && (!(q.1 == i + 1) && !(q.1 + 1 == i && q.2.category == 2))))) : ab_Lo ad ((ls.set i v).set (i + 1) .null) lsB n := by
  refine ⟨hB.1, hB.2.1, by rw [List.length_set, List.length_set]; exact h.2.2.1, fun j u hj hu => ?_⟩
  by_cases e9 : i + 1 = j
  · subst e9
    rw [List.getElem?_set_self (by rw [List.length_set, h.2.2.1]; exact hi)] at hj
    cases hj
    exact absurd rfl hu
  · rw [List.getElem?_set_ne e9] at hj
    by_cases e : i = j
    · subst e
      rw [List.getElem?_set_self (by rw [h.2.2.1]; omega)] at hj
      cases hj
      exact hB.2.2 _ List.mem_cons_self
    · rw [List.getElem?_set_ne e] at hj
      refine hB.2.2 (j, ab_v ad u) (List.mem_cons_of_mem _ (List.mem_filter.mpr ⟨ab_pl_to hj hu, ?_⟩))
      have e1 : (j == i) = false := by simp; omega
      have e10 : (j == i + 1) = false := by simp; omega
      by_cases e2 : j + 1 = i
      · have e3 : (ls.getD (i - 1) .null).category = 1 := hg.resolve_left (by omega)
        have e4 : i - 1 = j := by omega
        rw [e4, List.getD_eq_getElem?_getD, hj] at e3
        have e5 : (ab_v ad u).category = 1 := by rw [ab_v_cat]; exact e3
        simp [e1, e10, e5]
      · simp [e1, e10, e2]
theorem ab_ok_set {dom : List Nat} {n i : Nat} {v : Value} (h : ∀ u ∈ ls, ab_ok dom n u) (hv : ab_ok dom n v) : ∀ u ∈ ls.set i v, ab_ok dom n u := fun u hu => (List.mem_or_eq_of_mem_set hu).elim (h u) (fun e => e ▸ hv)
theorem ab_istore {i : Nat} {x : Int32} (hd : decode (ab_bc me) pc = .ok (.istore i, 2)) (hi : i < ab_ml me) (hg : i = 0 ∨ (ls.getD (i - 1) .null).category = 1) (k : ab_E w d me (pc + 2) (ls.set i (.int x)) st M res) : ab_E w d me pc ls (.int x :: st) M res := by
  intro p e R s m args below meth c C n0 dom0 ad0 cA0 c0 s0 ad cA dom H locs lsA cells slots At
  obtain ⟨a1, a2, a3, a4, a5, a6, a7, a8, a9, a10, a11⟩ := At
  refine lv_istore C.1 C.2.1 hd (ab_pl_has a3) hi rfl (fun lsB hB => ?_)
  exact k p e R s m args below meth c C n0 dom0 ad0 cA0 c0 s0 ad cA dom H locs lsB cells slots ⟨a1, a2, ab_Lo_st (v := .int x) a3 hi hg hB, ab_ok_set a4 (List.forall_mem_cons.mp a5).1, (List.forall_mem_cons.mp a5).2, a6, a7, a8, a9, a10, a11⟩
theorem ab_istore_n {i : Nat} {j : Fin 4} {x : Int32} (hd : decode (ab_bc me) pc = .ok (.istore_n j, 1)) (hj : (j : Nat) = i) (hi : i < ab_ml me) (hg : i = 0 ∨ (ls.getD (i - 1) .null).category = 1) (k : ab_E w d me (pc + 1) (ls.set i (.int x)) st M res) : ab_E w d me pc ls (.int x :: st) M res := by
  intro p e R s m args below meth c C n0 dom0 ad0 cA0 c0 s0 ad cA dom H locs lsA cells slots At
  obtain ⟨a1, a2, a3, a4, a5, a6, a7, a8, a9, a10, a11⟩ := At
  refine lv_istore_n C.1 C.2.1 hd hj (ab_pl_has a3) hi rfl (fun lsB hB => ?_)
  exact k p e R s m args below meth c C n0 dom0 ad0 cA0 c0 s0 ad cA dom H locs lsB cells slots ⟨a1, a2, ab_Lo_st (v := .int x) a3 hi hg hB, ab_ok_set a4 (List.forall_mem_cons.mp a5).1, (List.forall_mem_cons.mp a5).2, a6, a7, a8, a9, a10, a11⟩
theorem ab_lstore {i : Nat} {x : Int64} (hd : decode (ab_bc me) pc = .ok (.lstore i, 2)) (hi : i + 1 < ab_ml me) (hg : i = 0 ∨ (ls.getD (i - 1) .null).category = 1) (k : ab_E w d me (pc + 2) ((ls.set i (.long x)).set (i + 1) .null) st M res) : ab_E w d me pc ls (.long x :: st) M res := by
  intro p e R s m args below meth c C n0 dom0 ad0 cA0 c0 s0 ad cA dom H locs lsA cells slots At
  obtain ⟨a1, a2, a3, a4, a5, a6, a7, a8, a9, a10, a11⟩ := At
  refine lv_lstore C.1 C.2.1 hd (ab_pl_has a3) hi rfl (fun lsB hB => ?_)
  exact k p e R s m args below meth c C n0 dom0 ad0 cA0 c0 s0 ad cA dom H locs lsB cells slots ⟨a1, a2, ab_Lo_st2 (v := .long x) a3 hi hg hB, ab_ok_set (ab_ok_set a4 (List.forall_mem_cons.mp a5).1) trivial, (List.forall_mem_cons.mp a5).2, a6, a7, a8, a9, a10, a11⟩
theorem ab_lstore_n {i : Nat} {j : Fin 4} {x : Int64} (hd : decode (ab_bc me) pc = .ok (.lstore_n j, 1)) (hj : (j : Nat) = i) (hi : i + 1 < ab_ml me) (hg : i = 0 ∨ (ls.getD (i - 1) .null).category = 1) (k : ab_E w d me (pc + 1) ((ls.set i (.long x)).set (i + 1) .null) st M res) : ab_E w d me pc ls (.long x :: st) M res := by
  intro p e R s m args below meth c C n0 dom0 ad0 cA0 c0 s0 ad cA dom H locs lsA cells slots At
  obtain ⟨a1, a2, a3, a4, a5, a6, a7, a8, a9, a10, a11⟩ := At
  refine lv_lstore_n C.1 C.2.1 hd hj (ab_pl_has a3) hi rfl (fun lsB hB => ?_)
  exact k p e R s m args below meth c C n0 dom0 ad0 cA0 c0 s0 ad cA dom H locs lsB cells slots ⟨a1, a2, ab_Lo_st2 (v := .long x) a3 hi hg hB, ab_ok_set (ab_ok_set a4 (List.forall_mem_cons.mp a5).1) trivial, (List.forall_mem_cons.mp a5).2, a6, a7, a8, a9, a10, a11⟩
theorem ab_astore {i : Nat} {x : Nat} (hd : decode (ab_bc me) pc = .ok (.astore i, 2)) (hi : i < ab_ml me) (hg : i = 0 ∨ (ls.getD (i - 1) .null).category = 1) (k : ab_E w d me (pc + 2) (ls.set i (.ref x)) st M res) : ab_E w d me pc ls (.ref x :: st) M res := by
  intro p e R s m args below meth c C n0 dom0 ad0 cA0 c0 s0 ad cA dom H locs lsA cells slots At
  obtain ⟨a1, a2, a3, a4, a5, a6, a7, a8, a9, a10, a11⟩ := At
  refine lv_astore C.1 C.2.1 hd (ab_pl_has a3) hi rfl (fun lsB hB => ?_)
  exact k p e R s m args below meth c C n0 dom0 ad0 cA0 c0 s0 ad cA dom H locs lsB cells slots ⟨a1, a2, ab_Lo_st (v := .ref x) a3 hi hg hB, ab_ok_set a4 (List.forall_mem_cons.mp a5).1, (List.forall_mem_cons.mp a5).2, a6, a7, a8, a9, a10, a11⟩
theorem ab_astore_n {i : Nat} {j : Fin 4} {x : Nat} (hd : decode (ab_bc me) pc = .ok (.astore_n j, 1)) (hj : (j : Nat) = i) (hi : i < ab_ml me) (hg : i = 0 ∨ (ls.getD (i - 1) .null).category = 1) (k : ab_E w d me (pc + 1) (ls.set i (.ref x)) st M res) : ab_E w d me pc ls (.ref x :: st) M res := by
  intro p e R s m args below meth c C n0 dom0 ad0 cA0 c0 s0 ad cA dom H locs lsA cells slots At
  obtain ⟨a1, a2, a3, a4, a5, a6, a7, a8, a9, a10, a11⟩ := At
  refine lv_astore_n C.1 C.2.1 hd hj (ab_pl_has a3) hi rfl (fun lsB hB => ?_)
  exact k p e R s m args below meth c C n0 dom0 ad0 cA0 c0 s0 ad cA dom H locs lsB cells slots ⟨a1, a2, ab_Lo_st (v := .ref x) a3 hi hg hB, ab_ok_set a4 (List.forall_mem_cons.mp a5).1, (List.forall_mem_cons.mp a5).2, a6, a7, a8, a9, a10, a11⟩
theorem ab_iinc {i : Nat} {n : Int} {x v : Int32} (hd : decode (ab_bc me) pc = .ok (.iinc i n, 3)) (hl : ls[i]? = some (.int x)) (hv : x + Int32.ofInt n = v) (hi : i < ab_ml me) (hg : i = 0 ∨ (ls.getD (i - 1) .null).category = 1) (k : ab_E w d me (pc + 3) (ls.set i (.int v)) st M res) : ab_E w d me pc ls st M res := by
  intro p e R s m args below meth c C n0 dom0 ad0 cA0 c0 s0 ad cA dom H locs lsA cells slots At
  obtain ⟨a1, a2, a3, a4, a5, a6, a7, a8, a9, a10, a11⟩ := At
  have h9 : lv_has lsA (ab_ml me) ((i, .int x) :: ab_pl ad ls) := ⟨a3.1, a3.2.1, fun q hq => (List.mem_cons.mp hq).elim (fun e => by rw [e]; exact a3.2.2.2 i _ hl (fun h => by cases h)) (fun h => (ab_pl_has a3).2.2 q h)⟩
  refine lv_iinc (k := 0) C.1 C.2.1 hd h9 rfl hv hi rfl (fun lsB hB => ?_)
  refine k p e R s m args below meth c C n0 dom0 ad0 cA0 c0 s0 ad cA dom H locs lsB cells slots ⟨a1, a2, ab_Lo_st (v := .int v) a3 hi hg ?_, ab_ok_set a4 trivial, a5, a6, a7, a8, a9, a10, a11⟩
  refine ⟨hB.1, hB.2.1, fun q hq => hB.2.2 q ?_⟩
  rcases List.mem_cons.mp hq with h | h
  · rw [h]; exact List.mem_cons_self
  · refine List.mem_cons_of_mem _ ?_
    obtain ⟨h1, h2⟩ := List.mem_filter.mp h
    exact List.mem_filter.mpr ⟨List.mem_cons_of_mem _ h1, h2⟩
/-- a local that isn't asked for any more is forgotten -/
theorem ab_drop (i : Nat) (k : ab_E w d me pc (ls.set i .null) st M res) : ab_E w d me pc ls st M res := by
  intro p e R s m args below meth c C n0 dom0 ad0 cA0 c0 s0 ad cA dom H locs lsA cells slots At
  obtain ⟨a1, a2, a3, a4, a5, a6, a7, a8, a9, a10, a11⟩ := At
  refine k p e R s m args below meth c C n0 dom0 ad0 cA0 c0 s0 ad cA dom H locs lsA cells slots ⟨a1, a2, ⟨a3.1, a3.2.1, by rw [List.length_set]; exact a3.2.2.1, fun j u hj hu => ?_⟩, ab_ok_set a4 trivial, a5, a6, a7, a8, a9, a10, a11⟩
  by_cases e : i = j
  · subst e
    rw [List.getElem?_set] at hj
    split at hj
    · split at hj
      · cases hj; exact absurd rfl hu
      · cases hj
    · exact absurd rfl (by assumption)
  · rw [List.getElem?_set_ne e] at hj
    exact a3.2.2.2 j u hj hu
end ABR
