/-! ===== rows: one an instruction, over such a world ===== -/
/-- the tables' words that a callee's start may name; the links to nest mates -/
def hp_tbl : List Cond := lw_tbl.filter goodWord
def hp_nst : List (String × Nat × MethodName × String) := [("ProtocolBench", 11, ⟨"ProtocolBench$Protocol", "<init>", "()V"⟩, "ProtocolBench"), ("ProtocolBench", 18, ⟨"ProtocolBench$Graph", "<init>", "()V"⟩, "ProtocolBench"), ("ProtocolBench$Protocol", 25, ⟨"ProtocolBench$Roles", "<init>", "()V"⟩, "ProtocolBench"), ("ProtocolBench$Protocol", 41, ⟨"ProtocolBench$Steps", "<init>", "()V"⟩, "ProtocolBench"), ("ProtocolBench$Reckoner", 11, ⟨"ProtocolBench$Row", "<init>", "()V"⟩, "ProtocolBench"), ("ProtocolBench$Searcher", 11, ⟨"ProtocolBench$Row", "<init>", "()V"⟩, "ProtocolBench"), ("ProtocolBench$Searcher", 218, ⟨"ProtocolBench", "isDigit", "(I)Z"⟩, "ProtocolBench")]
def hp_N (U : State) : Prop := ∀ q ∈ hp_nst, va_Nw (.methodLinkNest q.1 q.2.1 q.2.2.1 q.2.2.2) U
theorem hp_in {w : Cond} (h : w ∈ lw_tbl) (g : goodWord w = true) : w ∈ hp_tbl := List.mem_filter.mpr ⟨h, g⟩
/-- the locals: an ordered list, each of one slot -/
def hp_L (ls : Array Slot) (nL : Nat) (lv : List (Nat × Value)) : Prop := lv_has ls nL lv ∧ ∀ q ∈ lv, q.2.category = 1
def hp_ins (i : Nat) (v : Value) : List (Nat × Value) → List (Nat × Value)
  | [] => [(i, v)]
  | q :: t => if q.1 = i then (i, v) :: t else if i < q.1 then (i, v) :: q :: t else q :: hp_ins i v t
def hp_ord : List (Nat × Value) → Bool
  | [] => true
  | q :: t => t.all (fun r => decide (q.1 < r.1)) && hp_ord t
theorem hp_ins_mem {i : Nat} {v : Value} : ∀ {lv : List (Nat × Value)} {q : Nat × Value}, hp_ord lv = true → q ∈ hp_ins i v lv → q = (i, v) ∨ (q ∈ lv ∧ q.1 ≠ i)
  | [], q, _, h => by
    simp only [hp_ins, List.mem_singleton] at h
    exact Or.inl h
  | r :: t, q, ho, h => by
    simp only [hp_ord, Bool.and_eq_true, List.all_eq_true, decide_eq_true_eq] at ho
    unfold hp_ins at h
    split at h
    · next e =>
      rcases List.mem_cons.mp h with h | h
      · exact Or.inl h
      · have := ho.1 q h
        exact Or.inr ⟨List.mem_cons_of_mem _ h, by omega⟩
    · next e =>
      split at h
      · next e2 =>
        rcases List.mem_cons.mp h with h | h
        · exact Or.inl h
        · refine Or.inr ⟨h, ?_⟩
          rcases List.mem_cons.mp h with h3 | h3
          · subst h3; exact e
          · have := ho.1 q h3
            omega
      · rcases List.mem_cons.mp h with h | h
        · exact Or.inr ⟨by rw [h]; exact List.mem_cons_self, by rw [h]; exact e⟩
        · rcases hp_ins_mem ho.2 h with h3 | h3
          · exact Or.inl h3
          · exact Or.inr ⟨List.mem_cons_of_mem _ h3.1, h3.2⟩
theorem hp_L.sto {ls : Array Slot} {nL i : Nat} {v : Value} {lv lv' : List (Nat × Value)} (h : hp_L ls nL lv) (hi : i < nL) (hc : v.category = 1) (ho : hp_ord lv = true) (hl : hp_ins i v lv = lv') :
    ∃ ls', storeLocals ls i v = some ls' ∧ hp_L ls' nL lv' := by
  obtain ⟨ls', h1, h2⟩ := lv_store1 h.1 hi hc
  subst hl
  refine ⟨ls', h1, ⟨h2.1, h2.2.1, fun q hq => ?_⟩, fun q hq => ?_⟩
  · rcases hp_ins_mem ho hq with h3 | ⟨h3, h4⟩
    · exact h2.2.2 q (by rw [h3]; exact List.mem_cons_self)
    · refine h2.2.2 q (List.mem_cons_of_mem _ (List.mem_filter.mpr ⟨h3, ?_⟩))
      have := h.2 q h3
      simp [h4, this]
  · rcases hp_ins_mem ho hq with h3 | ⟨h3, h4⟩
    · rw [h3]; exact hc
    · exact h.2 q h3
def hp_all1 : List Value → Bool
  | [] => true
  | v :: t => (match v with
    | .long _ => false
    | .double _ => false
    | _ => true) && hp_all1 t
theorem hp_cat1 {v : Value} (h : (match v with
    | .long _ => false
    | .double _ => false
    | _ => true) = true) : v.category = 1 := by
  cases v <;> simp_all [Value.category]
theorem hp_all1_args : ∀ (av : List Value) (i : Nat), hp_all1 av = true → ∀ q ∈ lv_args i av, q.2.category = 1
  | [], i, _, q, h => by simp [lv_args] at h
  | v :: t, i, ha, q, h => by
    simp only [hp_all1, Bool.and_eq_true] at ha
    simp only [lv_args] at h
    rcases List.mem_cons.mp h with h | h
    · rw [h]; exact hp_cat1 ha.1
    · exact hp_all1_args t _ ha.2 q h
/-- what a walk stands on -/
def hp_Env (p : Program) (R : Room) (s : State) (m : MethodId) (args : Array Value) (meth : Method) (c : Code) (cs : Nat → ClassId) (D : va_G) (own : String) (cc : ByteArray) (nL : Nat) (ret : Option FieldType) : Prop :=
  p.tables.exec = Jvm.exec ∧ c.code = cc ∧ c.maxLocals = nL ∧ s.vm.findClass own = some m.cls ∧ (∀ w ∈ hp_tbl, w.before args s = true) ∧ va_K D vwCl (hp_tys cs) s ∧ meth.locks = false ∧ meth.sig.returnType = ret ∧ hp_N s
def hp_G (p : Program) (l : Launch) (e : Env) (R : Room) (s : State) (m : MethodId) (args : Array Value) (below : List Frame) (meth : Method) (c : Code) (S : List hp_S) (cs : Nat → ClassId) (ad : Nat → Nat) (A : Nat → Prop) (D : va_G) (nL cells slots : Nat) (Q : State → Prop) (pc : Nat) (lv : List (Nat × Value)) (st : List Value) (h : hp_H) : Prop :=
  ∀ (H : Heap) (locs : List Loc) (ls : Array Slot), va_P D vwCl (hp_W S cs ad h) H → va_S A s.heap H locs → hp_L ls nL lv → W p l e R s m args below meth c H locs cells slots Q (F0 m pc ls st)
section
variable {p : Program} {l : Launch} {e : Env} {R : Room} {s : State} {m : MethodId} {args : Array Value} {below : List Frame} {meth : Method} {c : Code} {S : List hp_S} {cs : Nat → ClassId} {ad : Nat → Nat} {A : Nat → Prop} {D : va_G} {own : String} {cc : ByteArray} {ret : Option FieldType} {nL cells slots : Nat} {Q : State → Prop}
variable {pc : Nat} {lv : List (Nat × Value)} {st : List Value} {h : hp_H}
theorem hp_sub {lv' : List (Nat × Value)} (ks : List Nat) (hl : lv_pick lv ks = lv') (k : hp_G p l e R s m args below meth c S cs ad A D nL cells slots Q pc lv' st h) : hp_G p l e R s m args below meth c S cs ad A D nL cells slots Q pc lv st h := by
  intro H locs ls hP hS hl0
  refine k H locs ls hP hS ⟨lv_sub hl0.1 ks hl, fun q hq => ?_⟩
  rw [← hl] at hq
  obtain ⟨i, -, hi⟩ := List.mem_filterMap.mp hq
  exact hl0.2 q (List.mem_of_getElem? hi)
theorem hp_topi {x : Int32} (k : ∀ y : Int32, y = x → hp_G p l e R s m args below meth c S cs ad A D nL cells slots Q pc lv (.int y :: st) h) : hp_G p l e R s m args below meth c S cs ad A D nL cells slots Q pc lv (.int x :: st) h := k x rfl
theorem hp_iconst (E : hp_Env p R s m args meth c cs D own cc nL ret) {n : Int} (v : Int32) (hd : decode cc pc = .ok (.iconst n, 1)) (hv : Int32.ofInt n = v) (k : hp_G p l e R s m args below meth c S cs ad A D nL cells slots Q (pc + 1) lv (.int v :: st) h) : hp_G p l e R s m args below meth c S cs ad A D nL cells slots Q pc lv st h :=
  fun H locs ls hP hS hl => lv_iconst E.1 E.2.1 hd hv (k H locs ls hP hS hl)
theorem hp_bipush (E : hp_Env p R s m args meth c cs D own cc nL ret) {n : Int} (v : Int32) (hd : decode cc pc = .ok (.bipush n, 2)) (hv : (Int8.ofInt n).toInt32 = v) (k : hp_G p l e R s m args below meth c S cs ad A D nL cells slots Q (pc + 2) lv (.int v :: st) h) : hp_G p l e R s m args below meth c S cs ad A D nL cells slots Q pc lv st h :=
  fun H locs ls hP hS hl => lv_bipush E.1 E.2.1 hd hv (k H locs ls hP hS hl)
theorem hp_sipush (E : hp_Env p R s m args meth c cs D own cc nL ret) {n : Int} (v : Int32) (hd : decode cc pc = .ok (.sipush n, 3)) (hv : (Int16.ofInt n).toInt32 = v) (k : hp_G p l e R s m args below meth c S cs ad A D nL cells slots Q (pc + 3) lv (.int v :: st) h) : hp_G p l e R s m args below meth c S cs ad A D nL cells slots Q pc lv st h :=
  fun H locs ls hP hS hl => lv_sipush E.1 E.2.1 hd hv (k H locs ls hP hS hl)
theorem hp_ldc (E : hp_Env p R s m args meth c cs D own cc nL ret) {i : Nat} (v : Int32) (hm : Cond.constant own i v ∈ hp_tbl) (hd : decode cc pc = .ok (.ldc i, 2)) (k : hp_G p l e R s m args below meth c S cs ad A D nL cells slots Q (pc + 2) lv (.int v :: st) h) : hp_G p l e R s m args below meth c S cs ad A D nL cells slots Q pc lv st h :=
  fun H locs ls hP hS hl => lv_ldc E.1 E.2.1 E.2.2.2.1 (E.2.2.2.2.1 _ hm) hd (k H locs ls hP hS hl)
theorem hp_ldcw (E : hp_Env p R s m args meth c cs D own cc nL ret) {i : Nat} (v : Int32) (hm : Cond.constant own i v ∈ hp_tbl) (hd : decode cc pc = .ok (.ldc_w i, 3)) (k : hp_G p l e R s m args below meth c S cs ad A D nL cells slots Q (pc + 3) lv (.int v :: st) h) : hp_G p l e R s m args below meth c S cs ad A D nL cells slots Q pc lv st h :=
  fun H locs ls hP hS hl => lv_ldcw E.1 E.2.1 E.2.2.2.1 (E.2.2.2.2.1 _ hm) hd (k H locs ls hP hS hl)
theorem hp_lconst (E : hp_Env p R s m args meth c cs D own cc nL ret) {n : Fin 2} (v : Int64) (hd : decode cc pc = .ok (.lconst n, 1)) (hv : Int64.ofNat (n : Nat) = v) (k : hp_G p l e R s m args below meth c S cs ad A D nL cells slots Q (pc + 1) lv (.long v :: st) h) : hp_G p l e R s m args below meth c S cs ad A D nL cells slots Q pc lv st h :=
  fun H locs ls hP hS hl => lv_lconst E.1 E.2.1 hd hv (k H locs ls hP hS hl)
theorem hp_iload_n (E : hp_Env p R s m args meth c cs D own cc nL ret) (w : Nat) {k0 : Fin 4} {i : Nat} {x : Int32} (hd : decode cc pc = .ok (.iload_n k0, 1)) (hi : (k0 : Nat) = i) (hw : lv[w]? = some (i, .int x)) (k : hp_G p l e R s m args below meth c S cs ad A D nL cells slots Q (pc + 1) lv (.int x :: st) h) : hp_G p l e R s m args below meth c S cs ad A D nL cells slots Q pc lv st h :=
  fun H locs ls hP hS hl => lv_iload_n E.1 E.2.1 hd hi (lv_at hl.1 w hw) (k H locs ls hP hS hl)
theorem hp_iload (E : hp_Env p R s m args meth c cs D own cc nL ret) (w : Nat) {i : Nat} {x : Int32} (hd : decode cc pc = .ok (.iload i, 2)) (hw : lv[w]? = some (i, .int x)) (k : hp_G p l e R s m args below meth c S cs ad A D nL cells slots Q (pc + 2) lv (.int x :: st) h) : hp_G p l e R s m args below meth c S cs ad A D nL cells slots Q pc lv st h :=
  fun H locs ls hP hS hl => lv_iload E.1 E.2.1 hd (lv_at hl.1 w hw) (k H locs ls hP hS hl)
theorem hp_aload_n (E : hp_Env p R s m args meth c cs D own cc nL ret) (w : Nat) {k0 : Fin 4} {i : Nat} {x : Nat} (hd : decode cc pc = .ok (.aload_n k0, 1)) (hi : (k0 : Nat) = i) (hw : lv[w]? = some (i, .ref x)) (k : hp_G p l e R s m args below meth c S cs ad A D nL cells slots Q (pc + 1) lv (.ref x :: st) h) : hp_G p l e R s m args below meth c S cs ad A D nL cells slots Q pc lv st h :=
  fun H locs ls hP hS hl => lv_aload_n E.1 E.2.1 hd hi (lv_at hl.1 w hw) (k H locs ls hP hS hl)
theorem hp_aload (E : hp_Env p R s m args meth c cs D own cc nL ret) (w : Nat) {i : Nat} {x : Nat} (hd : decode cc pc = .ok (.aload i, 2)) (hw : lv[w]? = some (i, .ref x)) (k : hp_G p l e R s m args below meth c S cs ad A D nL cells slots Q (pc + 2) lv (.ref x :: st) h) : hp_G p l e R s m args below meth c S cs ad A D nL cells slots Q pc lv st h :=
  fun H locs ls hP hS hl => lv_aload E.1 E.2.1 hd (lv_at hl.1 w hw) (k H locs ls hP hS hl)
theorem hp_istore_n (E : hp_Env p R s m args meth c cs D own cc nL ret) {k0 : Fin 4} {i : Nat} {x : Int32} {lv' : List (Nat × Value)} (hd : decode cc pc = .ok (.istore_n k0, 1)) (hi : (k0 : Nat) = i) (hn : i < nL) (ho : hp_ord lv = true) (hl' : hp_ins i (.int x) lv = lv') (k : hp_G p l e R s m args below meth c S cs ad A D nL cells slots Q (pc + 1) lv' st h) : hp_G p l e R s m args below meth c S cs ad A D nL cells slots Q pc lv (.int x :: st) h := by
  intro H locs ls hP hS hl
  subst hi
  obtain ⟨ls', h1, h2⟩ := hl.sto hn rfl ho hl'
  intro T hT X
  obtain ⟨t, a, b⟩ := k H locs ls' hP hS h2 T hT X
  refine ⟨t, ?_, b⟩
  jvm_step X.here [X.here.top, E.1, E.2.1, hd, h1]
  exact a
theorem hp_istore (E : hp_Env p R s m args meth c cs D own cc nL ret) {i : Nat} {x : Int32} {lv' : List (Nat × Value)} (hd : decode cc pc = .ok (.istore i, 2)) (hn : i < nL) (ho : hp_ord lv = true) (hl' : hp_ins i (.int x) lv = lv') (k : hp_G p l e R s m args below meth c S cs ad A D nL cells slots Q (pc + 2) lv' st h) : hp_G p l e R s m args below meth c S cs ad A D nL cells slots Q pc lv (.int x :: st) h := by
  intro H locs ls hP hS hl
  obtain ⟨ls', h1, h2⟩ := hl.sto hn rfl ho hl'
  intro T hT X
  obtain ⟨t, a, b⟩ := k H locs ls' hP hS h2 T hT X
  refine ⟨t, ?_, b⟩
  jvm_step X.here [X.here.top, E.1, E.2.1, hd, h1]
  exact a
theorem hp_astore_n (E : hp_Env p R s m args meth c cs D own cc nL ret) {k0 : Fin 4} {i : Nat} {x : Nat} {lv' : List (Nat × Value)} (hd : decode cc pc = .ok (.astore_n k0, 1)) (hi : (k0 : Nat) = i) (hn : i < nL) (ho : hp_ord lv = true) (hl' : hp_ins i (.ref x) lv = lv') (k : hp_G p l e R s m args below meth c S cs ad A D nL cells slots Q (pc + 1) lv' st h) : hp_G p l e R s m args below meth c S cs ad A D nL cells slots Q pc lv (.ref x :: st) h := by
  intro H locs ls hP hS hl
  subst hi
  obtain ⟨ls', h1, h2⟩ := hl.sto hn rfl ho hl'
  intro T hT X
  obtain ⟨t, a, b⟩ := k H locs ls' hP hS h2 T hT X
  refine ⟨t, ?_, b⟩
  jvm_step X.here [X.here.top, E.1, E.2.1, hd, h1]
  exact ⟨rfl, a⟩
theorem hp_astore (E : hp_Env p R s m args meth c cs D own cc nL ret) {i : Nat} {x : Nat} {lv' : List (Nat × Value)} (hd : decode cc pc = .ok (.astore i, 2)) (hn : i < nL) (ho : hp_ord lv = true) (hl' : hp_ins i (.ref x) lv = lv') (k : hp_G p l e R s m args below meth c S cs ad A D nL cells slots Q (pc + 2) lv' st h) : hp_G p l e R s m args below meth c S cs ad A D nL cells slots Q pc lv (.ref x :: st) h := by
  intro H locs ls hP hS hl
  obtain ⟨ls', h1, h2⟩ := hl.sto hn rfl ho hl'
  intro T hT X
  obtain ⟨t, a, b⟩ := k H locs ls' hP hS h2 T hT X
  refine ⟨t, ?_, b⟩
  jvm_step X.here [X.here.top, E.1, E.2.1, hd, h1]
  exact ⟨rfl, a⟩
theorem hp_iinc (E : hp_Env p R s m args meth c cs D own cc nL ret) (w : Nat) (v : Int32) {i : Nat} {n : Int} {x : Int32} {lv' : List (Nat × Value)} (hd : decode cc pc = .ok (.iinc i n, 3)) (hw : lv[w]? = some (i, .int x)) (hv : x + Int32.ofInt n = v) (hn : i < nL) (ho : hp_ord lv = true) (hl' : hp_ins i (.int v) lv = lv') (k : hp_G p l e R s m args below meth c S cs ad A D nL cells slots Q (pc + 3) lv' st h) : hp_G p l e R s m args below meth c S cs ad A D nL cells slots Q pc lv st h := by
  intro H locs ls hP hS hl
  obtain ⟨ls', h1, h2⟩ := hl.sto hn rfl ho hl'
  have hi := lv_at hl.1 w hw
  subst hv
  intro T hT X
  obtain ⟨t, a, b⟩ := k H locs ls' hP hS h2 T hT X
  refine ⟨t, ?_, b⟩
  jvm_step X.here [X.here.top, E.1, E.2.1, hd, hi, h1]
  exact a
def hp_ushr (x y : Int32) : Int32 := (x.toUInt32 >>> (y.toUInt32 &&& Int32.toUInt32 31)).toInt32
def hp_shl (x y : Int32) : Int32 := x <<< (y &&& 31)
def hp_rem (x y : Int32) : Int32 := x - x / y * y
def hp_shlL (x : Int64) (y : Int32) : Int64 := x <<< (y.toInt64 &&& 63)
theorem hp_iadd (E : hp_Env p R s m args meth c cs D own cc nL ret) {x y : Int32} (hd : decode cc pc = .ok (.iadd, 1)) (k : hp_G p l e R s m args below meth c S cs ad A D nL cells slots Q (pc + 1) lv (.int (x + y) :: st) h) : hp_G p l e R s m args below meth c S cs ad A D nL cells slots Q (pc) lv (.int y :: .int x :: st) h :=
  fun H locs ls hP hS hl => lv_iadd E.1 E.2.1 hd (k H locs ls hP hS hl)
theorem hp_isub (E : hp_Env p R s m args meth c cs D own cc nL ret) {x y : Int32} (hd : decode cc pc = .ok (.isub, 1)) (k : hp_G p l e R s m args below meth c S cs ad A D nL cells slots Q (pc + 1) lv (.int (x - y) :: st) h) : hp_G p l e R s m args below meth c S cs ad A D nL cells slots Q (pc) lv (.int y :: .int x :: st) h :=
  fun H locs ls hP hS hl => lv_isub E.1 E.2.1 hd (k H locs ls hP hS hl)
theorem hp_imul (E : hp_Env p R s m args meth c cs D own cc nL ret) {x y : Int32} (hd : decode cc pc = .ok (.imul, 1)) (k : hp_G p l e R s m args below meth c S cs ad A D nL cells slots Q (pc + 1) lv (.int (x * y) :: st) h) : hp_G p l e R s m args below meth c S cs ad A D nL cells slots Q (pc) lv (.int y :: .int x :: st) h :=
  fun H locs ls hP hS hl => lv_imul E.1 E.2.1 hd (k H locs ls hP hS hl)
theorem hp_iand (E : hp_Env p R s m args meth c cs D own cc nL ret) {x y : Int32} (hd : decode cc pc = .ok (.iand, 1)) (k : hp_G p l e R s m args below meth c S cs ad A D nL cells slots Q (pc + 1) lv (.int (x &&& y) :: st) h) : hp_G p l e R s m args below meth c S cs ad A D nL cells slots Q (pc) lv (.int y :: .int x :: st) h :=
  fun H locs ls hP hS hl => lv_iand E.1 E.2.1 hd (k H locs ls hP hS hl)
theorem hp_ior (E : hp_Env p R s m args meth c cs D own cc nL ret) {x y : Int32} (hd : decode cc pc = .ok (.ior, 1)) (k : hp_G p l e R s m args below meth c S cs ad A D nL cells slots Q (pc + 1) lv (.int (x ||| y) :: st) h) : hp_G p l e R s m args below meth c S cs ad A D nL cells slots Q (pc) lv (.int y :: .int x :: st) h :=
  fun H locs ls hP hS hl => lv_ior E.1 E.2.1 hd (k H locs ls hP hS hl)
theorem hp_ixor (E : hp_Env p R s m args meth c cs D own cc nL ret) {x y : Int32} (hd : decode cc pc = .ok (.ixor, 1)) (k : hp_G p l e R s m args below meth c S cs ad A D nL cells slots Q (pc + 1) lv (.int (x ^^^ y) :: st) h) : hp_G p l e R s m args below meth c S cs ad A D nL cells slots Q (pc) lv (.int y :: .int x :: st) h :=
  fun H locs ls hP hS hl => lv_ixor E.1 E.2.1 hd (k H locs ls hP hS hl)
theorem hp_ishl (E : hp_Env p R s m args meth c cs D own cc nL ret) {x y : Int32} (hd : decode cc pc = .ok (.ishl, 1)) (k : hp_G p l e R s m args below meth c S cs ad A D nL cells slots Q (pc + 1) lv (.int (hp_shl x y) :: st) h) : hp_G p l e R s m args below meth c S cs ad A D nL cells slots Q (pc) lv (.int y :: .int x :: st) h :=
  fun H locs ls hP hS hl => lv_ishl E.1 E.2.1 hd (k H locs ls hP hS hl)
theorem hp_idiv (E : hp_Env p R s m args meth c cs D own cc nL ret) {x y : Int32} (hy : ¬ y = 0) (hd : decode cc pc = .ok (.idiv, 1)) (k : hp_G p l e R s m args below meth c S cs ad A D nL cells slots Q (pc + 1) lv (.int (x / y) :: st) h) : hp_G p l e R s m args below meth c S cs ad A D nL cells slots Q (pc) lv (.int y :: .int x :: st) h :=
  fun H locs ls hP hS hl => lv_idiv E.1 E.2.1 hd hy (k H locs ls hP hS hl)
theorem hp_irem (E : hp_Env p R s m args meth c cs D own cc nL ret) {x y : Int32} (hy : ¬ y = 0) (hd : decode cc pc = .ok (.irem, 1)) (k : hp_G p l e R s m args below meth c S cs ad A D nL cells slots Q (pc + 1) lv (.int (hp_rem x y) :: st) h) : hp_G p l e R s m args below meth c S cs ad A D nL cells slots Q (pc) lv (.int y :: .int x :: st) h :=
  fun H locs ls hP hS hl => lv_irem E.1 E.2.1 hd hy (k H locs ls hP hS hl)
theorem hp_iushr (E : hp_Env p R s m args meth c cs D own cc nL ret) {x y : Int32} (hd : decode cc pc = .ok (.iushr, 1)) (k : hp_G p l e R s m args below meth c S cs ad A D nL cells slots Q (pc + 1) lv (.int (hp_ushr x y) :: st) h) : hp_G p l e R s m args below meth c S cs ad A D nL cells slots Q (pc) lv (.int y :: .int x :: st) h :=
  fun H locs ls hP hS hl => lv_iushr E.1 E.2.1 hd rfl (k H locs ls hP hS hl)
theorem hp_lshl (E : hp_Env p R s m args meth c cs D own cc nL ret) {x : Int64} {y : Int32} (hd : decode cc pc = .ok (.lshl, 1)) (k : hp_G p l e R s m args below meth c S cs ad A D nL cells slots Q (pc + 1) lv (.long (hp_shlL x y) :: st) h) : hp_G p l e R s m args below meth c S cs ad A D nL cells slots Q (pc) lv (.int y :: .long x :: st) h :=
  fun H locs ls hP hS hl => lv_lshl E.1 E.2.1 hd rfl (k H locs ls hP hS hl)
theorem hp_lor (E : hp_Env p R s m args meth c cs D own cc nL ret) {x y : Int64} (hd : decode cc pc = .ok (.lor, 1)) (k : hp_G p l e R s m args below meth c S cs ad A D nL cells slots Q (pc + 1) lv (.long (x ||| y) :: st) h) : hp_G p l e R s m args below meth c S cs ad A D nL cells slots Q (pc) lv (.long y :: .long x :: st) h :=
  fun H locs ls hP hS hl => lv_lor E.1 E.2.1 hd (k H locs ls hP hS hl)
theorem hp_lcmp (E : hp_Env p R s m args meth c cs D own cc nL ret) {x y : Int64} (hd : decode cc pc = .ok (.lcmp, 1)) (k : hp_G p l e R s m args below meth c S cs ad A D nL cells slots Q (pc + 1) lv (.int (lg_cmp x y) :: st) h) : hp_G p l e R s m args below meth c S cs ad A D nL cells slots Q (pc) lv (.long y :: .long x :: st) h :=
  fun H locs ls hP hS hl => W.lcmp E.1 E.2.1 hd (k H locs ls hP hS hl)
theorem hp_dup (E : hp_Env p R s m args meth c cs D own cc nL ret) {va : Value} (h1 : va.category = 1) (hd : decode cc pc = .ok (.dup, 1)) (k : hp_G p l e R s m args below meth c S cs ad A D nL cells slots Q (pc + 1) lv (va :: va :: st) h) : hp_G p l e R s m args below meth c S cs ad A D nL cells slots Q (pc) lv (va :: st) h :=
  fun H locs ls hP hS hl => lv_dup E.1 E.2.1 hd h1 (k H locs ls hP hS hl)
theorem hp_pop (E : hp_Env p R s m args meth c cs D own cc nL ret) {va : Value} (h1 : va.category = 1) (hd : decode cc pc = .ok (.pop, 1)) (k : hp_G p l e R s m args below meth c S cs ad A D nL cells slots Q (pc + 1) lv (st) h) : hp_G p l e R s m args below meth c S cs ad A D nL cells slots Q (pc) lv (va :: st) h :=
  fun H locs ls hP hS hl => lv_pop E.1 E.2.1 hd h1 (k H locs ls hP hS hl)
theorem hp_dup_x1 (E : hp_Env p R s m args meth c cs D own cc nL ret) {va vb : Value} (h1 : va.category = 1) (h2 : vb.category = 1) (hd : decode cc pc = .ok (.dup_x1, 1)) (k : hp_G p l e R s m args below meth c S cs ad A D nL cells slots Q (pc + 1) lv (va :: vb :: va :: st) h) : hp_G p l e R s m args below meth c S cs ad A D nL cells slots Q (pc) lv (va :: vb :: st) h :=
  fun H locs ls hP hS hl => lv_dup_x1 E.1 E.2.1 hd h1 h2 (k H locs ls hP hS hl)
theorem hp_dup_x2 (E : hp_Env p R s m args meth c cs D own cc nL ret) {va vb vd : Value} (h1 : va.category = 1) (h2 : vb.category = 1) (h3 : vd.category = 1) (hd : decode cc pc = .ok (.dup_x2, 1)) (k : hp_G p l e R s m args below meth c S cs ad A D nL cells slots Q (pc + 1) lv (va :: vb :: vd :: va :: st) h) : hp_G p l e R s m args below meth c S cs ad A D nL cells slots Q (pc) lv (va :: vb :: vd :: st) h :=
  fun H locs ls hP hS hl => lv_dup_x2 E.1 E.2.1 hd h1 h2 h3 (k H locs ls hP hS hl)
theorem hp_dup2 (E : hp_Env p R s m args meth c cs D own cc nL ret) {va vb : Value} (h1 : va.category = 1) (h2 : vb.category = 1) (hd : decode cc pc = .ok (.dup2, 1)) (k : hp_G p l e R s m args below meth c S cs ad A D nL cells slots Q (pc + 1) lv (va :: vb :: va :: vb :: st) h) : hp_G p l e R s m args below meth c S cs ad A D nL cells slots Q (pc) lv (va :: vb :: st) h :=
  fun H locs ls hP hS hl => lv_dup2_11 E.1 E.2.1 hd h1 h2 (k H locs ls hP hS hl)
theorem hp_if_eq (E : hp_Env p R s m args meth c cs D own cc nL ret) {x : Int32} {off : Int} (tgt : Nat) (hd : decode cc pc = .ok (.ifCond .eq off, 3)) (ht : (pc : Int) + off = (tgt : Int)) (kt : x = 0 → hp_G p l e R s m args below meth c S cs ad A D nL cells slots Q (tgt) lv (st) h) (kf : ¬ (x = 0) → hp_G p l e R s m args below meth c S cs ad A D nL cells slots Q (pc + 3) lv (st) h) : hp_G p l e R s m args below meth c S cs ad A D nL cells slots Q (pc) lv (.int x :: st) h :=
  fun H locs ls hP hS hl => lv_if_eq E.1 E.2.1 hd ht (fun q => kt q H locs ls hP hS hl) (fun q => kf q H locs ls hP hS hl)
theorem hp_icmp_eq (E : hp_Env p R s m args meth c cs D own cc nL ret) {x y : Int32} {off : Int} (tgt : Nat) (hd : decode cc pc = .ok (.if_icmp .eq off, 3)) (ht : (pc : Int) + off = (tgt : Int)) (kt : x = y → hp_G p l e R s m args below meth c S cs ad A D nL cells slots Q (tgt) lv (st) h) (kf : ¬ (x = y) → hp_G p l e R s m args below meth c S cs ad A D nL cells slots Q (pc + 3) lv (st) h) : hp_G p l e R s m args below meth c S cs ad A D nL cells slots Q (pc) lv (.int y :: .int x :: st) h :=
  fun H locs ls hP hS hl => lv_icmp_eq E.1 E.2.1 hd ht (fun q => kt q H locs ls hP hS hl) (fun q => kf q H locs ls hP hS hl)
theorem hp_if_ne (E : hp_Env p R s m args meth c cs D own cc nL ret) {x : Int32} {off : Int} (tgt : Nat) (hd : decode cc pc = .ok (.ifCond .ne off, 3)) (ht : (pc : Int) + off = (tgt : Int)) (kt : ¬ x = 0 → hp_G p l e R s m args below meth c S cs ad A D nL cells slots Q (tgt) lv (st) h) (kf : x = 0 → hp_G p l e R s m args below meth c S cs ad A D nL cells slots Q (pc + 3) lv (st) h) : hp_G p l e R s m args below meth c S cs ad A D nL cells slots Q (pc) lv (.int x :: st) h :=
  fun H locs ls hP hS hl => lv_if_ne E.1 E.2.1 hd ht (fun q => kt q H locs ls hP hS hl) (fun q => kf q H locs ls hP hS hl)
theorem hp_icmp_ne (E : hp_Env p R s m args meth c cs D own cc nL ret) {x y : Int32} {off : Int} (tgt : Nat) (hd : decode cc pc = .ok (.if_icmp .ne off, 3)) (ht : (pc : Int) + off = (tgt : Int)) (kt : ¬ x = y → hp_G p l e R s m args below meth c S cs ad A D nL cells slots Q (tgt) lv (st) h) (kf : x = y → hp_G p l e R s m args below meth c S cs ad A D nL cells slots Q (pc + 3) lv (st) h) : hp_G p l e R s m args below meth c S cs ad A D nL cells slots Q (pc) lv (.int y :: .int x :: st) h :=
  fun H locs ls hP hS hl => lv_icmp_ne E.1 E.2.1 hd ht (fun q => kt q H locs ls hP hS hl) (fun q => kf q H locs ls hP hS hl)
theorem hp_if_lt (E : hp_Env p R s m args meth c cs D own cc nL ret) {x : Int32} {off : Int} (tgt : Nat) (hd : decode cc pc = .ok (.ifCond .lt off, 3)) (ht : (pc : Int) + off = (tgt : Int)) (kt : x < 0 → hp_G p l e R s m args below meth c S cs ad A D nL cells slots Q (tgt) lv (st) h) (kf : ¬ (x < 0) → hp_G p l e R s m args below meth c S cs ad A D nL cells slots Q (pc + 3) lv (st) h) : hp_G p l e R s m args below meth c S cs ad A D nL cells slots Q (pc) lv (.int x :: st) h :=
  fun H locs ls hP hS hl => lv_if_lt E.1 E.2.1 hd ht (fun q => kt q H locs ls hP hS hl) (fun q => kf q H locs ls hP hS hl)
theorem hp_icmp_lt (E : hp_Env p R s m args meth c cs D own cc nL ret) {x y : Int32} {off : Int} (tgt : Nat) (hd : decode cc pc = .ok (.if_icmp .lt off, 3)) (ht : (pc : Int) + off = (tgt : Int)) (kt : x < y → hp_G p l e R s m args below meth c S cs ad A D nL cells slots Q (tgt) lv (st) h) (kf : ¬ (x < y) → hp_G p l e R s m args below meth c S cs ad A D nL cells slots Q (pc + 3) lv (st) h) : hp_G p l e R s m args below meth c S cs ad A D nL cells slots Q (pc) lv (.int y :: .int x :: st) h :=
  fun H locs ls hP hS hl => lv_icmp_lt E.1 E.2.1 hd ht (fun q => kt q H locs ls hP hS hl) (fun q => kf q H locs ls hP hS hl)
theorem hp_if_ge (E : hp_Env p R s m args meth c cs D own cc nL ret) {x : Int32} {off : Int} (tgt : Nat) (hd : decode cc pc = .ok (.ifCond .ge off, 3)) (ht : (pc : Int) + off = (tgt : Int)) (kt : 0 ≤ x → hp_G p l e R s m args below meth c S cs ad A D nL cells slots Q (tgt) lv (st) h) (kf : ¬ (0 ≤ x) → hp_G p l e R s m args below meth c S cs ad A D nL cells slots Q (pc + 3) lv (st) h) : hp_G p l e R s m args below meth c S cs ad A D nL cells slots Q (pc) lv (.int x :: st) h :=
  fun H locs ls hP hS hl => lv_if_ge E.1 E.2.1 hd ht (fun q => kt q H locs ls hP hS hl) (fun q => kf q H locs ls hP hS hl)
theorem hp_icmp_ge (E : hp_Env p R s m args meth c cs D own cc nL ret) {x y : Int32} {off : Int} (tgt : Nat) (hd : decode cc pc = .ok (.if_icmp .ge off, 3)) (ht : (pc : Int) + off = (tgt : Int)) (kt : y ≤ x → hp_G p l e R s m args below meth c S cs ad A D nL cells slots Q (tgt) lv (st) h) (kf : ¬ (y ≤ x) → hp_G p l e R s m args below meth c S cs ad A D nL cells slots Q (pc + 3) lv (st) h) : hp_G p l e R s m args below meth c S cs ad A D nL cells slots Q (pc) lv (.int y :: .int x :: st) h :=
  fun H locs ls hP hS hl => lv_icmp_ge E.1 E.2.1 hd ht (fun q => kt q H locs ls hP hS hl) (fun q => kf q H locs ls hP hS hl)
theorem hp_if_gt (E : hp_Env p R s m args meth c cs D own cc nL ret) {x : Int32} {off : Int} (tgt : Nat) (hd : decode cc pc = .ok (.ifCond .gt off, 3)) (ht : (pc : Int) + off = (tgt : Int)) (kt : 0 < x → hp_G p l e R s m args below meth c S cs ad A D nL cells slots Q (tgt) lv (st) h) (kf : ¬ (0 < x) → hp_G p l e R s m args below meth c S cs ad A D nL cells slots Q (pc + 3) lv (st) h) : hp_G p l e R s m args below meth c S cs ad A D nL cells slots Q (pc) lv (.int x :: st) h :=
  fun H locs ls hP hS hl => lv_if_gt E.1 E.2.1 hd ht (fun q => kt q H locs ls hP hS hl) (fun q => kf q H locs ls hP hS hl)
theorem hp_icmp_gt (E : hp_Env p R s m args meth c cs D own cc nL ret) {x y : Int32} {off : Int} (tgt : Nat) (hd : decode cc pc = .ok (.if_icmp .gt off, 3)) (ht : (pc : Int) + off = (tgt : Int)) (kt : y < x → hp_G p l e R s m args below meth c S cs ad A D nL cells slots Q (tgt) lv (st) h) (kf : ¬ (y < x) → hp_G p l e R s m args below meth c S cs ad A D nL cells slots Q (pc + 3) lv (st) h) : hp_G p l e R s m args below meth c S cs ad A D nL cells slots Q (pc) lv (.int y :: .int x :: st) h :=
  fun H locs ls hP hS hl => lv_icmp_gt E.1 E.2.1 hd ht (fun q => kt q H locs ls hP hS hl) (fun q => kf q H locs ls hP hS hl)
theorem hp_if_le (E : hp_Env p R s m args meth c cs D own cc nL ret) {x : Int32} {off : Int} (tgt : Nat) (hd : decode cc pc = .ok (.ifCond .le off, 3)) (ht : (pc : Int) + off = (tgt : Int)) (kt : x ≤ 0 → hp_G p l e R s m args below meth c S cs ad A D nL cells slots Q (tgt) lv (st) h) (kf : ¬ (x ≤ 0) → hp_G p l e R s m args below meth c S cs ad A D nL cells slots Q (pc + 3) lv (st) h) : hp_G p l e R s m args below meth c S cs ad A D nL cells slots Q (pc) lv (.int x :: st) h :=
  fun H locs ls hP hS hl => lv_if_le E.1 E.2.1 hd ht (fun q => kt q H locs ls hP hS hl) (fun q => kf q H locs ls hP hS hl)
theorem hp_icmp_le (E : hp_Env p R s m args meth c cs D own cc nL ret) {x y : Int32} {off : Int} (tgt : Nat) (hd : decode cc pc = .ok (.if_icmp .le off, 3)) (ht : (pc : Int) + off = (tgt : Int)) (kt : x ≤ y → hp_G p l e R s m args below meth c S cs ad A D nL cells slots Q (tgt) lv (st) h) (kf : ¬ (x ≤ y) → hp_G p l e R s m args below meth c S cs ad A D nL cells slots Q (pc + 3) lv (st) h) : hp_G p l e R s m args below meth c S cs ad A D nL cells slots Q (pc) lv (.int y :: .int x :: st) h :=
  fun H locs ls hP hS hl => lv_icmp_le E.1 E.2.1 hd ht (fun q => kt q H locs ls hP hS hl) (fun q => kf q H locs ls hP hS hl)
theorem hp_goto (E : hp_Env p R s m args meth c cs D own cc nL ret) {off : Int} (tgt : Nat) (hd : decode cc pc = .ok (.goto off, 3)) (ht : (pc : Int) + off = (tgt : Int)) (k : hp_G p l e R s m args below meth c S cs ad A D nL cells slots Q (tgt) lv (st) h) : hp_G p l e R s m args below meth c S cs ad A D nL cells slots Q (pc) lv (st) h :=
  fun H locs ls hP hS hl => lv_goto E.1 E.2.1 hd ht (k H locs ls hP hS hl)
theorem hp_tswV (E : hp_Env p R s m args meth c cs D own cc nL ret) {x : Int32} (v : Int32) {dflt lo hi off : Int} {offs : Array Int} {len : Nat} (tgt : Nat) (hd : decode cc pc = .ok (.tableswitch dflt lo hi offs, len)) (hx : x = v) (h1 : ¬ v.toInt < lo) (h2 : ¬ hi < v.toInt) (ho : offs[(v.toInt - lo).toNat]? = some off) (ht : (pc : Int) + off = (tgt : Int)) (k : hp_G p l e R s m args below meth c S cs ad A D nL cells slots Q (tgt) lv (st) h) : hp_G p l e R s m args below meth c S cs ad A D nL cells slots Q (pc) lv (.int x :: st) h :=
  fun H locs ls hP hS hl => lv_tableIn E.1 E.2.1 hd (by rw [hx]; exact h1) (by rw [hx]; exact h2) (by rw [hx]; exact ho) ht (k H locs ls hP hS hl)
theorem hp_tswD (E : hp_Env p R s m args meth c cs D own cc nL ret) {x : Int32} {dflt lo hi : Int} {offs : Array Int} {len : Nat} (tgt : Nat) (hd : decode cc pc = .ok (.tableswitch dflt lo hi offs, len)) (h1 : x.toInt < lo ∨ hi < x.toInt) (ht : (pc : Int) + dflt = (tgt : Int)) (k : hp_G p l e R s m args below meth c S cs ad A D nL cells slots Q (tgt) lv (st) h) : hp_G p l e R s m args below meth c S cs ad A D nL cells slots Q (pc) lv (.int x :: st) h :=
  fun H locs ls hP hS hl => lv_tableOut E.1 E.2.1 hd h1 ht (k H locs ls hP hS hl)
theorem hp_lsw (E : hp_Env p R s m args meth c cs D own cc nL ret) {x : Int32} {dflt off : Int} {ps : Array (Int × Int)} {len : Nat} (tgt : Nat) (hd : decode cc pc = .ok (.lookupswitch dflt ps, len)) (hp : (ps.toList.zip (ps.toList.drop 1)).all (fun (a, next) => a.1 < next.1) = true) (ho : Op.lookupswitch.offset ps.toList dflt x.toInt = off) (ht : (pc : Int) + off = (tgt : Int)) (k : hp_G p l e R s m args below meth c S cs ad A D nL cells slots Q (tgt) lv (st) h) : hp_G p l e R s m args below meth c S cs ad A D nL cells slots Q (pc) lv (.int x :: st) h :=
  fun H locs ls hP hS hl => lv_lookup E.1 E.2.1 hd hp ho ht (k H locs ls hP hS hl)
theorem hp_geti (E : hp_Env p R s m args meth c cs D own cc nL ret) (k0 j : Nat) {ci N idx : Nat} {ds : List (Nat × Nat × Nat)} {u : Nat × Nat} {ref C : String} {T : u_T} (hs : S[k0]? = some (.inl (ci, ds))) (hf : ds[j]? = some (0, u)) (hc : vwCl[ci]? = some (C, T, N)) (hin : ∀ w ∈ u_ws C T N, w ∈ hp_tbl) (hj : j < N) (hr : (T j).1 = ref) (hm : Cond.fieldLink own idx ref (T j).2.1 (T j).2.2.1 ∈ hp_tbl) (hd : decode cc pc = .ok (.getfield idx, 3)) (k : hp_G p l e R s m args below meth c S cs ad A D nL cells slots Q (pc + 3) lv (.int (h k0 j) :: st) h) : hp_G p l e R s m args below meth c S cs ad A D nL cells slots Q (pc) lv (.ref (ad k0) :: st) h :=
  fun H locs ls hP hS hl => va_get E.1 E.2.1 E.2.2.2.2.1 hin E.2.2.2.1 E.2.2.2.2.2.1 hP k0 (hp_W_get hs) hc j hj (E.2.2.2.2.1 _ hm) (by rw [hr]; exact fun _ h9 => h9) (hp_fs_get hf) hd (k H locs ls hP hS hl)
theorem hp_getr (E : hp_Env p R s m args meth c cs D own cc nL ret) (k0 j t : Nat) {ci N idx u : Nat} {ds : List (Nat × Nat × Nat)} {ref C : String} {T : u_T} (hs : S[k0]? = some (.inl (ci, ds))) (hf : ds[j]? = some (1, t, u)) (hc : vwCl[ci]? = some (C, T, N)) (hin : ∀ w ∈ u_ws C T N, w ∈ hp_tbl) (hj : j < N) (hr : (T j).1 = ref) (hm : Cond.fieldLink own idx ref (T j).2.1 (T j).2.2.1 ∈ hp_tbl) (hd : decode cc pc = .ok (.getfield idx, 3)) (k : hp_G p l e R s m args below meth c S cs ad A D nL cells slots Q (pc + 3) lv (.ref (ad t) :: st) h) : hp_G p l e R s m args below meth c S cs ad A D nL cells slots Q (pc) lv (.ref (ad k0) :: st) h :=
  fun H locs ls hP hS hl => va_get E.1 E.2.1 E.2.2.2.2.1 hin E.2.2.2.1 E.2.2.2.2.2.1 hP k0 (hp_W_get hs) hc j hj (E.2.2.2.2.1 _ hm) (by rw [hr]; exact fun _ h9 => h9) (hp_fs_get hf) hd (k H locs ls hP hS hl)
theorem hp_getm (E : hp_Env p R s m args meth c cs D own cc nL ret) (k0 j t : Nat) {ci N idx u : Nat} {ds : List (Nat × Nat × Nat)} {ref C : String} {T : u_T} (hs : S[k0]? = some (.inl (ci, ds))) (hf : ds[j]? = some (2, t, u)) (hc : vwCl[ci]? = some (C, T, N)) (hin : ∀ w ∈ u_ws C T N, w ∈ hp_tbl) (hj : j < N) (hr : (T j).1 = ref) (hm : Cond.fieldLink own idx ref (T j).2.1 (T j).2.2.1 ∈ hp_tbl) (hd : decode cc pc = .ok (.getfield idx, 3)) (k : hp_G p l e R s m args below meth c S cs ad A D nL cells slots Q (pc + 3) lv (.ref (ad (t + (h hp_V u).toNatClampNeg)) :: st) h) : hp_G p l e R s m args below meth c S cs ad A D nL cells slots Q (pc) lv (.ref (ad k0) :: st) h :=
  fun H locs ls hP hS hl => va_get E.1 E.2.1 E.2.2.2.2.1 hin E.2.2.2.1 E.2.2.2.2.2.1 hP k0 (hp_W_get hs) hc j hj (E.2.2.2.2.1 _ hm) (by rw [hr]; exact fun _ h9 => h9) (hp_fs_get hf) hd (k H locs ls hP hS hl)
def hp_bz (v : Int32) : Prop := v = 0 ∨ v = 1
theorem hp_bz_n {v : Int32} (h : hp_bz v) : narrow .boolean (.int v) = .int v := by rcases h with rfl | rfl <;> rfl
theorem hp_bz_f {v : Int32} (h : hp_bz v) : fits .boolean (.int v) = true := by rcases h with rfl | rfl <;> rfl
theorem hp_putv (E : hp_Env p R s m args meth c cs D own cc nL ret) (k0 j : Nat) {ci N idx : Nat} {ds : List (Nat × Nat × Nat)} {u : Nat × Nat} {ref C : String} {T : u_T} {ty : FieldType} {v : Int32} (hs : S[k0]? = some (.inl (ci, ds))) (hf : ds[j]? = some (0, u)) (h9 : k0 ≠ hp_V) (hJ : hp_J S ad A) (hc : vwCl[ci]? = some (C, T, N)) (hin : ∀ w ∈ u_ws C T N, w ∈ hp_tbl) (ty0 : Nat → FieldType) (hty : ∀ k, k < N → parseFieldDescriptor (T k).2.2.1 = some (ty0 k)) (hnm : ∀ a, a < N → ∀ b, b < N → a ≠ b → (T a).2.1 ≠ (T b).2.1) (hj : j < N) (hr : (T j).1 = ref) (hfin : (T j).2.2.2 = false) (hm : Cond.fieldLink own idx ref (T j).2.1 (T j).2.2.1 ∈ hp_tbl) (ht : ty0 j = ty) (hn : narrow ty (.int v) = .int v) (hfit : fits ty (.int v) = true) (hd : decode cc pc = .ok (.putfield idx, 3)) (k : hp_G p l e R s m args below meth c S cs ad A D nL cells slots Q (pc + 3) lv (st) (hp_up h k0 j v)) : hp_G p l e R s m args below meth c S cs ad A D nL cells slots Q (pc) lv (.int v :: .ref (ad k0) :: st) h :=
  fun H locs ls hP hS hl => va_put (ty := ty) E.1 E.2.1 E.2.2.2.2.1 hin ty0 hty hnm E.2.2.2.1 E.2.2.2.2.2.1 hP (hJ.D h) hS k0 (hp_W_get hs) hc j hj (E.2.2.2.2.1 _ hm) (by rw [hr]; exact fun _ h9 => h9) hfin (by rw [hty j hj, ht]) hn hfit (by rw [hp_fs, hp_mi_len]; exact (List.getElem?_eq_some_iff.mp hf).1) hd (fun H1 locs1 hP1 hD1 hS1 => k H1 locs1 ls (by rw [← hp_W_put v hs hf h9]; exact hP1) hS1 hl)
theorem hp_puti (E : hp_Env p R s m args meth c cs D own cc nL ret) (k0 j : Nat) {ci N idx : Nat} {ds : List (Nat × Nat × Nat)} {u : Nat × Nat} {ref C : String} {T : u_T} {v : Int32} (hs : S[k0]? = some (.inl (ci, ds))) (hf : ds[j]? = some (0, u)) (h9 : k0 ≠ hp_V) (hJ : hp_J S ad A) (hc : vwCl[ci]? = some (C, T, N)) (hin : ∀ w ∈ u_ws C T N, w ∈ hp_tbl) (ty0 : Nat → FieldType) (hty : ∀ k, k < N → parseFieldDescriptor (T k).2.2.1 = some (ty0 k)) (hnm : ∀ a, a < N → ∀ b, b < N → a ≠ b → (T a).2.1 ≠ (T b).2.1) (hj : j < N) (hr : (T j).1 = ref) (hfin : (T j).2.2.2 = false) (hm : Cond.fieldLink own idx ref (T j).2.1 (T j).2.2.1 ∈ hp_tbl) (ht : ty0 j = .int) (hd : decode cc pc = .ok (.putfield idx, 3)) (k : hp_G p l e R s m args below meth c S cs ad A D nL cells slots Q (pc + 3) lv (st) (hp_up h k0 j v)) : hp_G p l e R s m args below meth c S cs ad A D nL cells slots Q (pc) lv (.int v :: .ref (ad k0) :: st) h :=
  hp_putv E k0 j hs hf h9 hJ hc hin ty0 hty hnm hj hr hfin hm ht rfl rfl hd k
theorem hp_putz (E : hp_Env p R s m args meth c cs D own cc nL ret) (k0 j : Nat) {ci N idx : Nat} {ds : List (Nat × Nat × Nat)} {u : Nat × Nat} {ref C : String} {T : u_T} {v : Int32} (hs : S[k0]? = some (.inl (ci, ds))) (hf : ds[j]? = some (0, u)) (h9 : k0 ≠ hp_V) (hJ : hp_J S ad A) (hc : vwCl[ci]? = some (C, T, N)) (hin : ∀ w ∈ u_ws C T N, w ∈ hp_tbl) (ty0 : Nat → FieldType) (hty : ∀ k, k < N → parseFieldDescriptor (T k).2.2.1 = some (ty0 k)) (hnm : ∀ a, a < N → ∀ b, b < N → a ≠ b → (T a).2.1 ≠ (T b).2.1) (hj : j < N) (hr : (T j).1 = ref) (hfin : (T j).2.2.2 = false) (hm : Cond.fieldLink own idx ref (T j).2.1 (T j).2.2.1 ∈ hp_tbl) (ht : ty0 j = .boolean) (hv : hp_bz v) (hd : decode cc pc = .ok (.putfield idx, 3)) (k : hp_G p l e R s m args below meth c S cs ad A D nL cells slots Q (pc + 3) lv (st) (hp_up h k0 j v)) : hp_G p l e R s m args below meth c S cs ad A D nL cells slots Q (pc) lv (.int v :: .ref (ad k0) :: st) h :=
  hp_putv E k0 j hs hf h9 hJ hc hin ty0 hty hnm hj hr hfin hm ht (hp_bz_n hv) (hp_bz_f hv) hd k
theorem hp_iald (E : hp_Env p R s m args meth c cs D own cc nL ret) (k0 : Nat) {n : Nat} {i : Int32} (hs : S[k0]? = some (.inr (0, n))) (hi : vp_in i n) (hd : decode cc pc = .ok (.iaload, 1)) (k : hp_G p l e R s m args below meth c S cs ad A D nL cells slots Q (pc + 1) lv (.int (h k0 i.toNatClampNeg) :: st) h) : hp_G p l e R s m args below meth c S cs ad A D nL cells slots Q (pc) lv (.int i :: .ref (ad k0) :: st) h :=
  fun H locs ls hP hS hl => va_iald E.1 E.2.1 E.2.2.2.2.2.1 hP k0 0 (hp_W_get hs) rfl hi hd (k H locs ls hP hS hl)
theorem hp_zald (E : hp_Env p R s m args meth c cs D own cc nL ret) (k0 : Nat) {n : Nat} {i : Int32} (hs : S[k0]? = some (.inr (2, n))) (hi : vp_in i n) (hd : decode cc pc = .ok (.baload, 1)) (k : hp_G p l e R s m args below meth c S cs ad A D nL cells slots Q (pc + 1) lv (.int (h k0 i.toNatClampNeg) :: st) h) : hp_G p l e R s m args below meth c S cs ad A D nL cells slots Q (pc) lv (.int i :: .ref (ad k0) :: st) h :=
  fun H locs ls hP hS hl => va_zald E.1 E.2.1 E.2.2.2.2.2.1 hP k0 2 (hp_W_get hs) rfl hi hd (k H locs ls hP hS hl)
theorem hp_lald (E : hp_Env p R s m args meth c cs D own cc nL ret) (k0 : Nat) {n : Nat} {i : Int32} (hs : S[k0]? = some (.inr (1, n))) (hi : vp_in i n) (hd : decode cc pc = .ok (.laload, 1)) (k : hp_G p l e R s m args below meth c S cs ad A D nL cells slots Q (pc + 1) lv (.long (hp_ldL h k0 i.toNatClampNeg) :: st) h) : hp_G p l e R s m args below meth c S cs ad A D nL cells slots Q (pc) lv (.int i :: .ref (ad k0) :: st) h :=
  fun H locs ls hP hS hl => va_lald E.1 E.2.1 E.2.2.2.2.2.1 hP k0 1 (hp_W_get hs) rfl hi hd (k H locs ls hP hS hl)
theorem hp_iast (E : hp_Env p R s m args meth c cs D own cc nL ret) (k0 : Nat) {n : Nat} {i x : Int32} (hs : S[k0]? = some (.inr (0, n))) (h9 : k0 ≠ hp_V) (hJ : hp_J S ad A) (hi : vp_in i n) (hd : decode cc pc = .ok (.iastore, 1)) (k : hp_G p l e R s m args below meth c S cs ad A D nL cells slots Q (pc + 1) lv (st) (hp_up h k0 i.toNatClampNeg x)) : hp_G p l e R s m args below meth c S cs ad A D nL cells slots Q (pc) lv (.int x :: .int i :: .ref (ad k0) :: st) h :=
  fun H locs ls hP hS hl => va_iast E.1 E.2.1 E.2.2.2.2.2.1 hP (hJ.D h) hS k0 0 (hp_W_get hs) rfl hi hd (fun H1 locs1 hP1 hD1 hS1 => k H1 locs1 ls (by rw [← hp_W_ast x hs (by decide) h9]; exact hP1) hS1 hl)
theorem hp_zast (E : hp_Env p R s m args meth c cs D own cc nL ret) (k0 : Nat) {n : Nat} {i x : Int32} (hs : S[k0]? = some (.inr (2, n))) (h9 : k0 ≠ hp_V) (hJ : hp_J S ad A) (hi : vp_in i n) (hx : hp_bz x) (hd : decode cc pc = .ok (.bastore, 1)) (k : hp_G p l e R s m args below meth c S cs ad A D nL cells slots Q (pc + 1) lv (st) (hp_up h k0 i.toNatClampNeg x)) : hp_G p l e R s m args below meth c S cs ad A D nL cells slots Q (pc) lv (.int x :: .int i :: .ref (ad k0) :: st) h :=
  fun H locs ls hP hS hl => va_zast E.1 E.2.1 E.2.2.2.2.2.1 hP (hJ.D h) hS k0 2 (hp_W_get hs) rfl hi hd (fun H1 locs1 hP1 hD1 hS1 => k H1 locs1 ls (by rw [← hp_W_ast x hs (by decide) h9]; rw [show vp_nar .boolean x = x by rcases hx with rfl | rfl <;> rfl] at hP1; exact hP1) hS1 hl)
theorem hp_last (E : hp_Env p R s m args meth c cs D own cc nL ret) (k0 : Nat) {n : Nat} {i : Int32} {x : Int64} (hs : S[k0]? = some (.inr (1, n))) (h9 : k0 ≠ hp_V) (hJ : hp_J S ad A) (hi : vp_in i n) (hd : decode cc pc = .ok (.lastore, 1)) (k : hp_G p l e R s m args below meth c S cs ad A D nL cells slots Q (pc + 1) lv (st) (hp_upL h k0 i.toNatClampNeg x)) : hp_G p l e R s m args below meth c S cs ad A D nL cells slots Q (pc) lv (.long x :: .int i :: .ref (ad k0) :: st) h :=
  fun H locs ls hP hS hl => va_last E.1 E.2.1 E.2.2.2.2.2.1 hP (hJ.D h) hS k0 1 (hp_W_get hs) rfl hi hd (fun H1 locs1 hP1 hD1 hS1 => k H1 locs1 ls (by rw [← hp_W_last x hs h9]; exact hP1) hS1 hl)
theorem hp_alen (E : hp_Env p R s m args meth c cs D own cc nL ret) (k0 : Nat) {n : Nat} (hs : S[k0]? = some (.inr (0, n))) (hd : decode cc pc = .ok (.arraylength, 1)) (k : hp_G p l e R s m args below meth c S cs ad A D nL cells slots Q (pc + 1) lv (.int (nI n) :: st) h) : hp_G p l e R s m args below meth c S cs ad A D nL cells slots Q (pc) lv (.ref (ad k0) :: st) h :=
  fun H locs ls hP hS hl => va_alen (ty := .int) E.1 E.2.1 E.2.2.2.2.2.1 hP k0 0 (hp_W_get hs) rfl rfl hd (k H locs ls hP hS hl)
theorem hp_copy (E : hp_Env p R s m args meth c cs D own cc nL ret) (k0 k1 : Nat) {n0 n1 idx : Nat} {sp dp n : Int32} (hs0 : S[k0]? = some (.inr (0, n0))) (hs1 : S[k1]? = some (.inr (0, n1))) (h9 : k1 ≠ hp_V) (hJ : hp_J S ad A) (hm : Cond.methodLink own idx arraycopyName ∈ hp_tbl) (hm2 : Cond.native arraycopyName ∈ hp_tbl ∧ Cond.static arraycopyName ∈ hp_tbl ∧ Cond.initialized "java/lang/System" ∈ hp_tbl) (h1 : ¬ sp < 0) (h2 : ¬ dp < 0) (h3 : ¬ n < 0) (h4 : sp.toNatClampNeg + n.toNatClampNeg ≤ n0) (h5 : dp.toNatClampNeg + n.toNatClampNeg ≤ n1) (hf : 1 ≤ R.frames) (hl0 : (st.map fun v => v.category).sum + (nativeFrameWords "java/lang/System" "arraycopy" 5 + 11) ≤ R.locals) (hd : decode cc pc = .ok (.invokestatic idx, 3)) (k : hp_G p l e R s m args below meth c S cs ad A D nL cells slots Q (pc + 3) lv (st) (hp_cp h k0 k1 sp.toNatClampNeg dp.toNatClampNeg n.toNatClampNeg)) : hp_G p l e R s m args below meth c S cs ad A D nL cells slots Q (pc) lv (.int n :: .int dp :: .ref (ad k1) :: .int sp :: .ref (ad k0) :: st) h :=
  fun H locs ls hP hS hl => va_copyi (ty := .int) E.1 E.2.1 (by rw [E.2.2.1]; exact hl.1.1.symm) E.2.2.2.1 (E.2.2.2.2.1 _ hm) (E.2.2.2.2.1 _ hm2.1) (E.2.2.2.2.1 _ hm2.2.1) (E.2.2.2.2.1 _ hm2.2.2) E.2.2.2.2.2.1 hP (hJ.D h) hS k0 k1 0 0 (hp_W_get hs0) (hp_W_get hs1) rfl rfl rfl h1 h2 h3 h4 h5 (fun _ _ => rfl) hf hl0 hd (fun H1 locs1 hP1 hD1 hS1 => k H1 locs1 ls (by rw [← hp_W_cp hs1 (by decide) h9]; exact hP1) hS1 hl)
theorem hp_mmin (E : hp_Env p R s m args meth c cs D own cc nL ret) {idx : Nat} {x y : Int32} (hm : Cond.methodLink own idx Lib.Math.min.name ∈ hp_tbl) (hm2 : Cond.static Lib.Math.min.name ∈ hp_tbl ∧ Cond.initialized "java/lang/Math" ∈ hp_tbl ∧ Cond.code Lib.Math.min.name Lib.Math.min.code 2 (some .int) ∈ hp_tbl) (hf : 1 ≤ R.frames) (hl0 : (st.map fun v => v.category).sum + 13 ≤ R.locals) (hc : cells ≤ R.cells) (hs : slots ≤ R.slots) (hd : decode cc pc = .ok (.invokestatic idx, 3)) (k : hp_G p l e R s m args below meth c S cs ad A D nL cells slots Q (pc + 3) lv (.int (if y < x then y else x) :: st) h) : hp_G p l e R s m args below meth c S cs ad A D nL cells slots Q (pc) lv (.int y :: .int x :: st) h :=
  fun H locs ls hP hS hl => va_mmin E.1 E.2.1 (by rw [E.2.2.1]; exact hl.1.1.symm) E.2.2.2.1 (E.2.2.2.2.1 _ hm) (E.2.2.2.2.1 _ hm2.1) (E.2.2.2.2.1 _ hm2.2.1) (E.2.2.2.2.1 _ hm2.2.2) hf hl0 hc hs hd (k H locs ls hP hS hl)
def hp_B (S : List hp_S) (cs : Nat → ClassId) (ad : Nat → Nat) (D : va_G) : hp_H → State → Prop := fun h t => va_P D vwCl (hp_W S cs ad h) t.heap
def hp_Br (S : List hp_S) (cs : Nat → ClassId) (ad : Nat → Nat) (D : va_G) (r : Nat) : hp_H → Nat → State → Prop := fun h a t => a = ad r ∧ va_P D vwCl (hp_W S cs ad h) t.heap
theorem hp_iret (E : hp_Env p R s m args meth c cs D own cc nL (some .int)) {Qp : Int32 → hp_H → Prop} {v : Int32} (hq : Qp v h) (hZ : Q = MQ below (va_Qi Qp (hp_B S cs ad D) A) args s cells slots A) (hd : decode cc pc = .ok (.ireturn, 1)) : hp_G p l e R s m args below meth c S cs ad A D nL cells slots Q pc lv [.int v] h :=
  by subst hZ; exact fun H locs ls hP hS hl => W.iret E.1 E.2.1 E.2.2.2.2.2.2.2.1 (fun t ht hW => ⟨⟨v, h, rfl, hq, by show va_P _ _ _ _; rw [ht]; exact hP⟩, hS.F ht⟩) hS.2.2 hd E.2.2.2.2.2.2.1
theorem hp_zret (E : hp_Env p R s m args meth c cs D own cc nL (some .boolean)) {Qp : Int32 → hp_H → Prop} {v : Int32} (hv : hp_bz v) (hq : Qp v h) (hZ : Q = MQ below (va_Qi Qp (hp_B S cs ad D) A) args s cells slots A) (hd : decode cc pc = .ok (.ireturn, 1)) : hp_G p l e R s m args below meth c S cs ad A D nL cells slots Q pc lv [.int v] h :=
  by subst hZ; exact fun H locs ls hP hS hl => W.zret E.1 E.2.1 E.2.2.2.2.2.2.2.1 (hp_bz_n hv) (fun t ht hW => ⟨⟨v, h, rfl, hq, by show va_P _ _ _ _; rw [ht]; exact hP⟩, hS.F ht⟩) hS.2.2 hd E.2.2.2.2.2.2.1
theorem hp_vret (E : hp_Env p R s m args meth c cs D own cc nL none) {Qp : hp_H → Prop} (hq : Qp h) (hZ : Q = MQ below (va_Qv Qp (hp_B S cs ad D) A) args s cells slots A) (hd : decode cc pc = .ok (.return_, 1)) : hp_G p l e R s m args below meth c S cs ad A D nL cells slots Q pc lv [] h :=
  by subst hZ; exact fun H locs ls hP hS hl => W.vret E.1 E.2.1 E.2.2.2.2.2.2.2.1 (fun t ht hW => ⟨⟨h, rfl, hq, by show va_P _ _ _ _; rw [ht]; exact hP⟩, hS.F ht⟩) hS.2.2 hd E.2.2.2.2.2.2.1
theorem hp_aret {C : String} (E : hp_Env p R s m args meth c cs D own cc nL (some (.object C))) {Qp : hp_H → Prop} {r : Nat} (hq : Qp h) (hZ : Q = MQ below (va_Qr Qp (hp_Br S cs ad D r) A) args s cells slots A) (hd : decode cc pc = .ok (.areturn, 1)) : hp_G p l e R s m args below meth c S cs ad A D nL cells slots Q pc lv [.ref (ad r)] h :=
  by subst hZ; exact fun H locs ls hP hS hl => W.aret E.1 E.2.1 E.2.2.2.2.2.2.2.1 (Or.inl ⟨_, rfl⟩) (Or.inr ⟨_, rfl⟩) (fun t ht hW => ⟨⟨h, ad r, rfl, hq, rfl, by rw [ht]; exact hP⟩, hS.F ht⟩) hS.2.2 hd E.2.2.2.2.2.2.1
end
