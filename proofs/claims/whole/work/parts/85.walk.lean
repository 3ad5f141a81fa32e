/-! ===== a walk over any heap that keeps to I ===== -/
def gi_G (p : Program) (l : Launch) (e : Env) (R : Room) (s : State) (m : MethodId) (args : Array Value) (below : List Frame) (meth : Method) (c : Code) (A : Nat → Prop) (nL cells slots : Nat) (Q : State → Prop) (I : Heap → Prop) (pc : Nat) (lv : List (Nat × Value)) (st : List Value) : Prop :=
  ∀ (H : Heap) (locs : List Loc) (ls : Array Slot), I H → va_S A s.heap H locs → hp_L ls nL lv → W p l e R s m args below meth c H locs cells slots Q (F0 m pc ls st)
section
variable {p : Program} {l : Launch} {e : Env} {R : Room} {s : State} {m : MethodId} {args : Array Value} {below : List Frame} {meth : Method} {c : Code} {cs : Nat → ClassId} {A : Nat → Prop} {D : va_G} {own : String} {cc : ByteArray} {ret : Option FieldType} {nL cells slots : Nat} {Q : State → Prop}
variable {pc : Nat} {lv : List (Nat × Value)} {st : List Value} {I : Heap → Prop}
theorem gi_sub {lv' : List (Nat × Value)} (ks : List Nat) (hl : lv_pick lv ks = lv') (k : gi_G p l e R s m args below meth c A nL cells slots Q I pc lv' st) : gi_G p l e R s m args below meth c A nL cells slots Q I pc lv st := by
  intro H locs ls hP hS hl0
  refine k H locs ls hP hS ⟨lv_sub hl0.1 ks hl, fun q hq => ?_⟩
  rw [← hl] at hq
  obtain ⟨i, -, hi⟩ := List.mem_filterMap.mp hq
  exact hl0.2 q (List.mem_of_getElem? hi)
theorem gi_iconst (E : hp_Env p R s m args meth c cs D own cc nL ret) {n : Int} (v : Int32) (hd : decode cc pc = .ok (.iconst n, 1)) (hv : Int32.ofInt n = v) (k : gi_G p l e R s m args below meth c A nL cells slots Q I (pc + 1) lv (.int v :: st)) : gi_G p l e R s m args below meth c A nL cells slots Q I pc lv st :=
  fun H locs ls hP hS hl => lv_iconst E.1 E.2.1 hd hv (k H locs ls hP hS hl)
theorem gi_bipush (E : hp_Env p R s m args meth c cs D own cc nL ret) {n : Int} (v : Int32) (hd : decode cc pc = .ok (.bipush n, 2)) (hv : (Int8.ofInt n).toInt32 = v) (k : gi_G p l e R s m args below meth c A nL cells slots Q I (pc + 2) lv (.int v :: st)) : gi_G p l e R s m args below meth c A nL cells slots Q I pc lv st :=
  fun H locs ls hP hS hl => lv_bipush E.1 E.2.1 hd hv (k H locs ls hP hS hl)
theorem gi_sipush (E : hp_Env p R s m args meth c cs D own cc nL ret) {n : Int} (v : Int32) (hd : decode cc pc = .ok (.sipush n, 3)) (hv : (Int16.ofInt n).toInt32 = v) (k : gi_G p l e R s m args below meth c A nL cells slots Q I (pc + 3) lv (.int v :: st)) : gi_G p l e R s m args below meth c A nL cells slots Q I pc lv st :=
  fun H locs ls hP hS hl => lv_sipush E.1 E.2.1 hd hv (k H locs ls hP hS hl)
theorem gi_iload_n (E : hp_Env p R s m args meth c cs D own cc nL ret) (w : Nat) {k0 : Fin 4} {i : Nat} {x : Int32} (hd : decode cc pc = .ok (.iload_n k0, 1)) (hi : (k0 : Nat) = i) (hw : lv[w]? = some (i, .int x)) (k : gi_G p l e R s m args below meth c A nL cells slots Q I (pc + 1) lv (.int x :: st)) : gi_G p l e R s m args below meth c A nL cells slots Q I pc lv st :=
  fun H locs ls hP hS hl => lv_iload_n E.1 E.2.1 hd hi (lv_at hl.1 w hw) (k H locs ls hP hS hl)
theorem gi_aload_n (E : hp_Env p R s m args meth c cs D own cc nL ret) (w : Nat) {k0 : Fin 4} {i : Nat} {x : Nat} (hd : decode cc pc = .ok (.aload_n k0, 1)) (hi : (k0 : Nat) = i) (hw : lv[w]? = some (i, .ref x)) (k : gi_G p l e R s m args below meth c A nL cells slots Q I (pc + 1) lv (.ref x :: st)) : gi_G p l e R s m args below meth c A nL cells slots Q I pc lv st :=
  fun H locs ls hP hS hl => lv_aload_n E.1 E.2.1 hd hi (lv_at hl.1 w hw) (k H locs ls hP hS hl)
theorem gi_istore_n (E : hp_Env p R s m args meth c cs D own cc nL ret) {k0 : Fin 4} {i : Nat} {x : Int32} {lv' : List (Nat × Value)} (hd : decode cc pc = .ok (.istore_n k0, 1)) (hi : (k0 : Nat) = i) (hn : i < nL) (ho : hp_ord lv = true) (hl' : hp_ins i (.int x) lv = lv') (k : gi_G p l e R s m args below meth c A nL cells slots Q I (pc + 1) lv' st) : gi_G p l e R s m args below meth c A nL cells slots Q I pc lv (.int x :: st) := by
  intro H locs ls hP hS hl
  subst hi
  obtain ⟨ls', h1, h2⟩ := hl.sto hn rfl ho hl'
  intro T hT X
  obtain ⟨t, a, b⟩ := k H locs ls' hP hS h2 T hT X
  refine ⟨t, ?_, b⟩
  jvm_step X.here [X.here.top, E.1, E.2.1, hd, h1]
  exact a
theorem gi_astore_n (E : hp_Env p R s m args meth c cs D own cc nL ret) {k0 : Fin 4} {i : Nat} {x : Nat} {lv' : List (Nat × Value)} (hd : decode cc pc = .ok (.astore_n k0, 1)) (hi : (k0 : Nat) = i) (hn : i < nL) (ho : hp_ord lv = true) (hl' : hp_ins i (.ref x) lv = lv') (k : gi_G p l e R s m args below meth c A nL cells slots Q I (pc + 1) lv' st) : gi_G p l e R s m args below meth c A nL cells slots Q I pc lv (.ref x :: st) := by
  intro H locs ls hP hS hl
  subst hi
  obtain ⟨ls', h1, h2⟩ := hl.sto hn rfl ho hl'
  intro T hT X
  obtain ⟨t, a, b⟩ := k H locs ls' hP hS h2 T hT X
  refine ⟨t, ?_, b⟩
  jvm_step X.here [X.here.top, E.1, E.2.1, hd, h1]
  exact ⟨rfl, a⟩
theorem gi_iinc (E : hp_Env p R s m args meth c cs D own cc nL ret) (w : Nat) (v : Int32) {i : Nat} {n : Int} {x : Int32} {lv' : List (Nat × Value)} (hd : decode cc pc = .ok (.iinc i n, 3)) (hw : lv[w]? = some (i, .int x)) (hv : x + Int32.ofInt n = v) (hn : i < nL) (ho : hp_ord lv = true) (hl' : hp_ins i (.int v) lv = lv') (k : gi_G p l e R s m args below meth c A nL cells slots Q I (pc + 3) lv' st) : gi_G p l e R s m args below meth c A nL cells slots Q I pc lv st := by
  intro H locs ls hP hS hl
  obtain ⟨ls', h1, h2⟩ := hl.sto hn rfl ho hl'
  have hi := lv_at hl.1 w hw
  subst hv
  intro T hT X
  obtain ⟨t, a, b⟩ := k H locs ls' hP hS h2 T hT X
  refine ⟨t, ?_, b⟩
  jvm_step X.here [X.here.top, E.1, E.2.1, hd, hi, h1]
  exact a
theorem gi_iadd (E : hp_Env p R s m args meth c cs D own cc nL ret) {x y : Int32} (hd : decode cc pc = .ok (.iadd, 1)) (k : gi_G p l e R s m args below meth c A nL cells slots Q I (pc + 1) lv (.int (x + y) :: st)) : gi_G p l e R s m args below meth c A nL cells slots Q I (pc) lv (.int y :: .int x :: st) :=
  fun H locs ls hP hS hl => lv_iadd E.1 E.2.1 hd (k H locs ls hP hS hl)
theorem gi_isub (E : hp_Env p R s m args meth c cs D own cc nL ret) {x y : Int32} (hd : decode cc pc = .ok (.isub, 1)) (k : gi_G p l e R s m args below meth c A nL cells slots Q I (pc + 1) lv (.int (x - y) :: st)) : gi_G p l e R s m args below meth c A nL cells slots Q I (pc) lv (.int y :: .int x :: st) :=
  fun H locs ls hP hS hl => lv_isub E.1 E.2.1 hd (k H locs ls hP hS hl)
theorem gi_imul (E : hp_Env p R s m args meth c cs D own cc nL ret) {x y : Int32} (hd : decode cc pc = .ok (.imul, 1)) (k : gi_G p l e R s m args below meth c A nL cells slots Q I (pc + 1) lv (.int (x * y) :: st)) : gi_G p l e R s m args below meth c A nL cells slots Q I (pc) lv (.int y :: .int x :: st) :=
  fun H locs ls hP hS hl => lv_imul E.1 E.2.1 hd (k H locs ls hP hS hl)
theorem gi_iand (E : hp_Env p R s m args meth c cs D own cc nL ret) {x y : Int32} (hd : decode cc pc = .ok (.iand, 1)) (k : gi_G p l e R s m args below meth c A nL cells slots Q I (pc + 1) lv (.int (x &&& y) :: st)) : gi_G p l e R s m args below meth c A nL cells slots Q I (pc) lv (.int y :: .int x :: st) :=
  fun H locs ls hP hS hl => lv_iand E.1 E.2.1 hd (k H locs ls hP hS hl)
theorem gi_dup (E : hp_Env p R s m args meth c cs D own cc nL ret) {va : Value} (h1 : va.category = 1) (hd : decode cc pc = .ok (.dup, 1)) (k : gi_G p l e R s m args below meth c A nL cells slots Q I (pc + 1) lv (va :: va :: st)) : gi_G p l e R s m args below meth c A nL cells slots Q I (pc) lv (va :: st) :=
  fun H locs ls hP hS hl => lv_dup E.1 E.2.1 hd h1 (k H locs ls hP hS hl)
theorem gi_if_eq (E : hp_Env p R s m args meth c cs D own cc nL ret) {x : Int32} {off : Int} (tgt : Nat) (hd : decode cc pc = .ok (.ifCond .eq off, 3)) (ht : (pc : Int) + off = (tgt : Int)) (kt : x = 0 → gi_G p l e R s m args below meth c A nL cells slots Q I (tgt) lv (st)) (kf : ¬ (x = 0) → gi_G p l e R s m args below meth c A nL cells slots Q I (pc + 3) lv (st)) : gi_G p l e R s m args below meth c A nL cells slots Q I (pc) lv (.int x :: st) :=
  fun H locs ls hP hS hl => lv_if_eq E.1 E.2.1 hd ht (fun q => kt q H locs ls hP hS hl) (fun q => kf q H locs ls hP hS hl)
theorem gi_icmp_eq (E : hp_Env p R s m args meth c cs D own cc nL ret) {x y : Int32} {off : Int} (tgt : Nat) (hd : decode cc pc = .ok (.if_icmp .eq off, 3)) (ht : (pc : Int) + off = (tgt : Int)) (kt : x = y → gi_G p l e R s m args below meth c A nL cells slots Q I (tgt) lv (st)) (kf : ¬ (x = y) → gi_G p l e R s m args below meth c A nL cells slots Q I (pc + 3) lv (st)) : gi_G p l e R s m args below meth c A nL cells slots Q I (pc) lv (.int y :: .int x :: st) :=
  fun H locs ls hP hS hl => lv_icmp_eq E.1 E.2.1 hd ht (fun q => kt q H locs ls hP hS hl) (fun q => kf q H locs ls hP hS hl)
theorem gi_icmp_gt (E : hp_Env p R s m args meth c cs D own cc nL ret) {x y : Int32} {off : Int} (tgt : Nat) (hd : decode cc pc = .ok (.if_icmp .gt off, 3)) (ht : (pc : Int) + off = (tgt : Int)) (kt : y < x → gi_G p l e R s m args below meth c A nL cells slots Q I (tgt) lv (st)) (kf : ¬ (y < x) → gi_G p l e R s m args below meth c A nL cells slots Q I (pc + 3) lv (st)) : gi_G p l e R s m args below meth c A nL cells slots Q I (pc) lv (.int y :: .int x :: st) :=
  fun H locs ls hP hS hl => lv_icmp_gt E.1 E.2.1 hd ht (fun q => kt q H locs ls hP hS hl) (fun q => kf q H locs ls hP hS hl)
theorem gi_goto (E : hp_Env p R s m args meth c cs D own cc nL ret) {off : Int} (tgt : Nat) (hd : decode cc pc = .ok (.goto off, 3)) (ht : (pc : Int) + off = (tgt : Int)) (k : gi_G p l e R s m args below meth c A nL cells slots Q I (tgt) lv (st)) : gi_G p l e R s m args below meth c A nL cells slots Q I (pc) lv (st) :=
  fun H locs ls hP hS hl => lv_goto E.1 E.2.1 hd ht (k H locs ls hP hS hl)
theorem gi_tswV (E : hp_Env p R s m args meth c cs D own cc nL ret) {x : Int32} (v : Int32) {dflt lo hi off : Int} {offs : Array Int} {len : Nat} (tgt : Nat) (hd : decode cc pc = .ok (.tableswitch dflt lo hi offs, len)) (hx : x = v) (h1 : ¬ v.toInt < lo) (h2 : ¬ hi < v.toInt) (ho : offs[(v.toInt - lo).toNat]? = some off) (ht : (pc : Int) + off = (tgt : Int)) (k : gi_G p l e R s m args below meth c A nL cells slots Q I (tgt) lv (st)) : gi_G p l e R s m args below meth c A nL cells slots Q I (pc) lv (.int x :: st) :=
  fun H locs ls hP hS hl => lv_tableIn E.1 E.2.1 hd (by rw [hx]; exact h1) (by rw [hx]; exact h2) (by rw [hx]; exact ho) ht (k H locs ls hP hS hl)
theorem gi_tswD (E : hp_Env p R s m args meth c cs D own cc nL ret) {x : Int32} {dflt lo hi : Int} {offs : Array Int} {len : Nat} (tgt : Nat) (hd : decode cc pc = .ok (.tableswitch dflt lo hi offs, len)) (h1 : x.toInt < lo ∨ hi < x.toInt) (ht : (pc : Int) + dflt = (tgt : Int)) (k : gi_G p l e R s m args below meth c A nL cells slots Q I (tgt) lv (st)) : gi_G p l e R s m args below meth c A nL cells slots Q I (pc) lv (.int x :: st) :=
  fun H locs ls hP hS hl => lv_tableOut E.1 E.2.1 hd h1 ht (k H locs ls hP hS hl)
end
/-! ===== making: the cells come one behind another, from b0 on ===== -/
def mk_ad (b0 i : Nat) : Nat := b0 + i
def mk_A (b0 : Nat) : Nat → Prop := fun q => b0 ≤ q
def mk_I (D : va_G) (cs : Nat → ClassId) (b0 : Nat) (S : List hp_S) (h : hp_H) : Heap → Prop := fun H => H.size = b0 + S.length ∧ va_P D vwCl (hp_W S cs (mk_ad b0) h) H
theorem mk_J (S : List hp_S) (b0 : Nat) : hp_J S (mk_ad b0) (mk_A b0) := ⟨fun i j _ _ e => by unfold mk_ad at e; omega, fun i _ => Nat.le_add_right b0 i⟩
def mk_bd (ty : FieldType) : Nat × Nat × Nat := match defaultValue ty with
  | .int _ => (0, 0, 0)
  | _ => (3, 0, 0)
def mk_ok (ty : FieldType) : Bool := match ty with
  | .int => true
  | .boolean => true
  | .object _ => true
  | .array _ => true
  | _ => false
theorem mk_dv {ty : FieldType} (h : mk_ok ty = true) {ad : Nat → Nat} {hh : hp_H} {k j : Nat} (hz : hh k j = 0) : hp_fv ad hh k j (mk_bd ty) = defaultValue ty := by
  cases ty <;> simp_all [mk_ok, mk_bd, defaultValue, hp_fv]
theorem hp_mi_app {α β : Type} (f : Nat → α → β) (x : α) : ∀ (l : List α) (i : Nat), hp_mi f i (l ++ [x]) = hp_mi f i l ++ [f (i + l.length) x]
  | [], i => by simp [hp_mi]
  | y :: t, i => by
    simp only [List.cons_append, hp_mi, hp_mi_app f x t (i + 1), List.length_cons]
    rw [show i + 1 + t.length = i + (t.length + 1) by omega]
theorem hp_W_app {S : List hp_S} {cs : Nat → ClassId} {ad : Nat → Nat} {h : hp_H} (x : hp_S) : hp_W (S ++ [x]) cs ad h = hp_W S cs ad h ++ [(ad S.length, hp_E cs ad h S.length x)] := by
  unfold hp_W
  rw [hp_mi_app, Nat.zero_add]
theorem mk_grow {D : va_G} {cs : Nat → ClassId} {b0 : Nat} {S : List hp_S} {h : hp_H} {H H1 : Heap} (x : hp_S) (hI : mk_I D cs b0 S h H) (hz : H1.size = H.size + 1) (ho : ∀ q, q < H.size → H1[q]? = H[q]?) (hat : va_at D vwCl (H.size, hp_E cs (mk_ad b0) h S.length x) H1) : mk_I D cs b0 (S ++ [x]) h H1 := by
  obtain ⟨h1, h2⟩ := hI
  refine ⟨by rw [hz, h1, List.length_append]; simp; omega, ?_⟩
  rw [hp_W_app]
  refine (h2.kept (fun k q hk => ho q.1 ((h2 k q hk).lt))).app (fun k q hk => ?_)
  have hz : k < 1 := (List.getElem?_eq_some_iff.mp hk).1
  rw [show k = 0 by omega] at hk
  cases hk
  rw [show mk_ad b0 S.length = H.size from h1.symm]
  exact hat
/-- a reference field is put, whatever the shape says of it -/
theorem hp_W_refd {S : List hp_S} {cs : Nat → ClassId} {ad : Nat → Nat} {h : hp_H} {k j ci t : Nat} {d : Nat × Nat × Nat} {ds : List (Nat × Nat × Nat)} (hk : S[k]? = some (.inl (ci, ds))) (hd : hp_fv ad h k j d = .ref (ad t)) :
    (hp_W S cs ad h).set k (ad k, .inr (ci, (hp_fs ad h k ds).set j (.ref (ad t)))) = hp_W (S.set k (.inl (ci, ds.set j d))) cs ad h := by
  rw [hp_W_set (h' := h) (x' := .inl (ci, ds.set j d)) hk ?_ (fun i _ hi => rfl) rfl]
  simp only [hp_E]
  congr 2
  apply List.ext_getElem?
  intro i
  simp only [hp_fs, hp_mi_get0, List.getElem?_set, hp_mi_len]
  by_cases hi : j = i
  · subst hi
    by_cases hj : j < ds.length
    · simp [hj, hd]
    · simp [hj]
  · simp [hi]
/-- what the tables say of a field that is put by a constructor -/
def hp_Fq (own : String) (idx ci j : Nat) (ty : FieldType) : Prop := ∃ (C : String) (T : u_T) (N : Nat) (ty0 : Nat → FieldType), vwCl[ci]? = some (C, T, N) ∧ (∀ w ∈ u_ws C T N, w ∈ hp_tbl) ∧ j < N ∧ (T j).1 = own ∧ Cond.fieldLink own idx own (T j).2.1 (T j).2.2.1 ∈ hp_tbl ∧ (∀ k, k < N → parseFieldDescriptor (T k).2.2.1 = some (ty0 k)) ∧ (∀ a, a < N → ∀ b, b < N → a ≠ b → (T a).2.1 ≠ (T b).2.1) ∧ ty0 j = ty
/-- of a class whose objects are made -/
def hp_Fn (own : String) (idx ci N : Nat) (ds : List (Nat × Nat × Nat)) : Prop := ∃ (C : String) (T : u_T) (ty0 : Nat → FieldType), vwCl[ci]? = some (C, T, N) ∧ (∀ w ∈ u_ws C T N, w ∈ hp_tbl) ∧ (∀ k, k < N → parseFieldDescriptor (T k).2.2.1 = some (ty0 k)) ∧ Cond.classLink own idx C ∈ hp_tbl ∧ Cond.instantiable C N ∈ hp_tbl ∧ Cond.initialized C ∈ hp_tbl ∧ ∀ j, j < N → mk_ok (ty0 j) = true ∧ ds[j]? = some (mk_bd (ty0 j))
/-- of a constructor -/
def hp_Fi (y : MethodName) (cc : ByteArray) (nL : Nat) (n : Nat) : Prop := Cond.instanceMethod y ∈ hp_tbl ∧ Cond.initialized y.cls ∈ hp_tbl ∧ Cond.code y cc nL none ∈ hp_tbl ∧ (y.cls ≠ "java/lang/invoke/MethodHandle" ∧ y.cls ≠ "java/lang/invoke/VarHandle" ∧ (parseMethodDescriptor y.desc).map (fun d => d.parameters.length) = some n) ∧ y.name = "<init>"
section
variable {p : Program} {l : Launch} {e : Env} {R : Room} {s : State} {m : MethodId} {args : Array Value} {below : List Frame} {meth : Method} {c : Code} {cs : Nat → ClassId} {A : Nat → Prop} {D : va_G} {own : String} {cc : ByteArray} {ret : Option FieldType} {nL cells slots : Nat} {Q : State → Prop}
variable {pc : Nat} {lv : List (Nat × Value)} {st : List Value} {S : List hp_S} {h : hp_H} {b0 : Nat}
theorem mk_obj (E : hp_Env p R s m args meth c cs D own cc nL ret) {I : Heap → Prop} {idx a : Nat} (hm : Cond.methodLink own idx Lib.objectInit ∈ hp_tbl) (hm2 : Cond.instanceMethod Lib.objectInit ∈ hp_tbl ∧ Cond.code Lib.objectInit ⟨#[0xb1]⟩ 1 none ∈ hp_tbl) (hf : 1 ≤ R.frames) (hl0 : (st.map fun v => v.category).sum + 12 ≤ R.locals) (hd : decode cc pc = .ok (.invokespecial idx, 3)) (k : gi_G p l e R s m args below meth c A nL cells slots Q I (pc + 3) lv st) : gi_G p l e R s m args below meth c A nL cells slots Q I pc lv (.ref a :: st) :=
  fun H locs ls hP hS hl => W.objInit E.1 E.2.1 E.2.2.2.1 (E.2.2.2.2.1 _ hm) (E.2.2.2.2.1 _ hm2.1) (E.2.2.2.2.1 _ hm2.2) rfl (by rw [E.2.2.1]; exact hl.1.1) rfl hd hf (by show 2 * 0 + _ + 12 ≤ _; omega) (k H locs ls hP hS hl)
theorem mk_getr (E : hp_Env p R s m args meth c cs D own cc nL ret) {k0 j t u idx ci : Nat} (F : hp_Fg own idx ci j) (hs : hp_sh S k0 ci j (1, t, u)) (hd : decode cc pc = .ok (.getfield idx, 3)) (k : gi_G p l e R s m args below meth c A nL cells slots Q (mk_I D cs b0 S h) (pc + 3) lv (.ref (mk_ad b0 t) :: st)) : gi_G p l e R s m args below meth c A nL cells slots Q (mk_I D cs b0 S h) pc lv (.ref (mk_ad b0 k0) :: st) := by
  obtain ⟨C, T, N, ref, hc, hin, hj, hr, hm⟩ := F
  obtain ⟨ds, hs1, hf⟩ := hs
  exact fun H locs ls hP hS hl => va_get E.1 E.2.1 E.2.2.2.2.1 hin E.2.2.2.1 E.2.2.2.2.2.1 hP.2 k0 (hp_W_get hs1) hc j hj (E.2.2.2.2.1 _ hm) (by rw [hr]; exact fun _ h9 => h9) (hp_fs_get hf) hd (k H locs ls hP hS hl)
theorem mk_put (E : hp_Env p R s m args meth c cs D own cc nL ret) {k0 j idx ci : Nat} {ds : List (Nat × Nat × Nat)} {ty : FieldType} {v : Value} (hi : meth.name = "<init>") (F : hp_Fq own idx ci j ty) (hs : S[k0]? = some (.inl (ci, ds))) (hj2 : j < ds.length) (hn : narrow ty v = v) (hfit : fits ty v = true) (hd : decode cc pc = .ok (.putfield idx, 3)) {S' : List hp_S} {h' : hp_H} (hlen : S'.length = S.length) (hW' : (hp_W S cs (mk_ad b0) h).set k0 (mk_ad b0 k0, .inr (ci, (hp_fs (mk_ad b0) h k0 ds).set j v)) = hp_W S' cs (mk_ad b0) h') (k : gi_G p l e R s m args below meth c (mk_A b0) nL cells slots Q (mk_I D cs b0 S' h') (pc + 3) lv st) : gi_G p l e R s m args below meth c (mk_A b0) nL cells slots Q (mk_I D cs b0 S h) pc lv (v :: .ref (mk_ad b0 k0) :: st) := by
  obtain ⟨C, T, N, ty0, hc, hin, hj, hr, hm, hty, hnm, ht⟩ := F
  intro H locs ls hI hS0 hl
  obtain ⟨hsz, hP⟩ := hI
  have hts := E.2.2.2.2.1
  have hK := E.2.2.2.2.2.1
  have hown := E.2.2.2.1
  have hlink := hts _ hm
  have hD : va_D (mk_A b0) (hp_W S cs (mk_ad b0) h) := (mk_J S b0).D h
  have he := hp_W_get (cs := cs) (ad := mk_ad b0) (h := h) hs
  have hd2 : parseFieldDescriptor (T j).2.2.1 = some ty := by rw [hty j hj, ht]
  have hl2 : j < (hp_fs (mk_ad b0) h k0 ds).length := by rw [hp_fs, hp_mi_len]; exact hj2
  have hap := va_apart (own := own) hts hin ty0 hty hnm hK hc
  obtain ⟨r, h1, cell, q1, q2, q3, q4⟩ := hP k0 _ he
  have hr2 : r = (C, T, N) := Option.some.inj (h1.symm.trans hc)
  subst hr2
  obtain ⟨hS, hfc, kC, hkC, hkind⟩ := hK.1 ci _ hc
  obtain ⟨cf, kf, fi, f, hi2, hsl⟩ := hS j hj
  have hlay := hts _ (hin _ (u_in_lay hj))
  unfold u_lay at hlay
  have hst := (u_facts hfc hkC (u_lays hts hin hj) hi2).1
  have hsame : s.fieldFound? own (T j).2.1 (T j).2.2.1 = some (cf, kf, fi, f) := by rw [← hr]; exact hi2
  by_cases hfin : (T j).2.2.2 = true
  · rw [if_pos hfin] at hlay
    have hcf : m.cls = cf := by
      obtain ⟨_, _, c', _, _, _, -, -, hf', -, -, -, hown2, -⟩ := Cond.laysFinal_spec hlay
      have e1 : c' = cf := by have := hi2.symm.trans hf'; simp at this; exact this.1.symm
      rw [hr] at hown2
      rw [← e1]; exact Option.some.inj (hown.symm.trans hown2)
    have h6 := u_fits hfc hkC hkind (Or.inr hlay) hi2 hd2 hn hfit
    refine W.putFinK E.1 E.2.1 hown hlink hsame hst hcf hi (by rw [q2]; exact h6) q1 q3 (by rw [hsl]; exact k2_hasslot (q4 j hj)) rfl rfl hd fun H' e1 e2 e3 => ?_
    rw [hsl] at e1 ⊢
    exact k H' _ ls ⟨by rw [e2, hsz, hlen], by rw [← hW']; exact (hP.set hD he ⟨_, hc, t_OB.to (V := updV (vp_V (hp_fs (mk_ad b0) h k0 ds)) j v) ⟨_, e1, q2, q3, t_set q4 hap hj v⟩ (fun j _ => vp_updV_set hl2 v j)⟩ e3)⟩ (hS0.put e2 e3 (hD.2 k0 _ he)) hl
  · rw [if_neg hfin] at hlay
    have h6 := u_store hfc hkC hkind hlay hi2 hd2 hn hfit
    refine W.putK E.1 E.2.1 (f := f) ⟨hown, hlink, ⟨_, _, _, hsame⟩, hst⟩ (by rw [q2]; exact h6) q1 q3 (by rw [hsl]; exact k2_hasslot (q4 j hj)) rfl rfl hd fun H' e1 e2 e3 => ?_
    rw [hsl] at e1 ⊢
    exact k H' _ ls ⟨by rw [e2, hsz, hlen], by rw [← hW']; exact (hP.set hD he ⟨_, hc, t_OB.to (V := updV (vp_V (hp_fs (mk_ad b0) h k0 ds)) j v) ⟨_, e1, q2, q3, t_set q4 hap hj v⟩ (fun j _ => vp_updV_set hl2 v j)⟩ e3)⟩ (hS0.put e2 e3 (hD.2 k0 _ he)) hl
theorem mk_putr (E : hp_Env p R s m args meth c cs D own cc nL ret) {k0 j idx ci t : Nat} {ds : List (Nat × Nat × Nat)} {ty : FieldType} (d : Nat × Nat × Nat) {S' : List hp_S} (hi : meth.name = "<init>") (F : hp_Fq own idx ci j ty) (hs : S[k0]? = some (.inl (ci, ds))) (hj2 : j < ds.length) (hn : narrow ty (.ref (mk_ad b0 t)) = .ref (mk_ad b0 t)) (hfit : fits ty (.ref (mk_ad b0 t)) = true) (hfv : hp_fv (mk_ad b0) h k0 j d = .ref (mk_ad b0 t)) (hS' : S.set k0 (.inl (ci, ds.set j d)) = S') (hd : decode cc pc = .ok (.putfield idx, 3)) (k : gi_G p l e R s m args below meth c (mk_A b0) nL cells slots Q (mk_I D cs b0 S' h) (pc + 3) lv st) : gi_G p l e R s m args below meth c (mk_A b0) nL cells slots Q (mk_I D cs b0 S h) pc lv (.ref (mk_ad b0 t) :: .ref (mk_ad b0 k0) :: st) := by
  subst hS'
  exact mk_put E hi F hs hj2 hn hfit hd (List.length_set ..) (hp_W_refd hs hfv) k
theorem mk_puti (E : hp_Env p R s m args meth c cs D own cc nL ret) {k0 j idx ci : Nat} {ds : List (Nat × Nat × Nat)} {u : Nat × Nat} {v : Int32} {h' : hp_H} (hi : meth.name = "<init>") (F : hp_Fq own idx ci j .int) (hs : S[k0]? = some (.inl (ci, ds))) (hf : ds[j]? = some (0, u)) (h9 : k0 ≠ hp_V) (hh : hp_up h k0 j v = h') (hd : decode cc pc = .ok (.putfield idx, 3)) (k : gi_G p l e R s m args below meth c (mk_A b0) nL cells slots Q (mk_I D cs b0 S h') (pc + 3) lv st) : gi_G p l e R s m args below meth c (mk_A b0) nL cells slots Q (mk_I D cs b0 S h) pc lv (.int v :: .ref (mk_ad b0 k0) :: st) := by
  subst hh
  exact mk_put E hi F hs (List.getElem?_eq_some_iff.mp hf).1 rfl rfl hd rfl (hp_W_put v hs hf h9) k
theorem mk_new (E : hp_Env p R s m args meth c cs D own cc nL ret) {idx ci N n cells' slots' : Nat} {ds : List (Nat × Nat × Nat)} {S' : List hp_S} (F : hp_Fn own idx ci N ds) (hn : S.length = n) (hz : ∀ j, h n j = 0) (hS' : S ++ [.inl (ci, ds)] = S') (hc1 : cells + 1 = cells') (hs1 : slots + N = slots') (hR : cells' ≤ R.cells ∧ slots' ≤ R.slots) (hd : decode cc pc = .ok (.new idx, 3)) (k : gi_G p l e R s m args below meth c A nL cells' slots' Q (mk_I D cs b0 S' h) (pc + 3) lv (.ref (mk_ad b0 n) :: st)) : gi_G p l e R s m args below meth c A nL cells slots Q (mk_I D cs b0 S h) pc lv st := by
  subst hn; subst hS'; subst hc1; subst hs1
  obtain ⟨C, T, ty0, hc, hin, hty, hcl, hinst, hini, hb⟩ := F
  intro H locs ls hI hS hl
  have hKn := E.2.2.2.2.2.1.1 ci _ hc
  refine W.newcK E.1 E.2.1 E.2.2.2.1 (E.2.2.2.2.1 _ hcl) (E.2.2.2.2.1 _ hinst) (E.2.2.2.2.1 _ hini) rfl hd hR.1 hR.2 hKn.2.1 rfl fun H1 kC hkC e1 z1 o1 => ?_
  have hat : va_at D vwCl (H.size, hp_E cs (mk_ad b0) h S.length (.inl (ci, ds))) H1 := ⟨_, hc, (u_born ty0 E.2.2.2.2.1 hin hKn hkC e1 hty).to (fun j hj => by
    obtain ⟨g1, g2⟩ := hb j hj
    simp only [vp_V, List.getD_eq_getElem?_getD, hp_fs_get g2, Option.getD_some, mk_dv g1 (hz j)])⟩
  have K := k H1 locs ls (mk_grow _ hI z1 o1 hat) ⟨Nat.le_trans hS.1 (by omega), fun x h1 h2 => (o1 x (Nat.lt_of_lt_of_le h1 hS.1)).trans (hS.2.1 x h1 h2), hS.2.2⟩ hl
  rw [show mk_ad b0 S.length = H.size from hI.1.symm] at K
  exact K
theorem mk_newa (E : hp_Env p R s m args meth c cs D own cc nL ret) {n cells' slots' N t : Nat} {v : Int32} {S' : List hp_S} {atype : ArrayType} {ty : FieldType} (hty : newarray.typeOf atype = ty) (harr : Cond.arrayClass ty ∈ hp_tbl) (ht : (hp_tys cs)[t]? = some (cs t, ty)) (hra : ∀ (U : State) (cA : ClassId), va_RA U cA ty → U.vm.findClass ("[" ++ ty.toString) = some cA) (hn : S.length = n) (hz : ∀ j, h n j = 0) (hcell : vp_cell (cs t) (N, hp_A h n t) = arrV (cs t) N (fun _ => defaultValue ty)) (hS' : S ++ [.inr (t, N)] = S') (hv : ¬ v < 0) (hN : v.toNatClampNeg = N) (hbytes : N * componentBytes ty ≤ 536870912) (hc1 : cells + 1 = cells') (hs1 : slots + N = slots') (hR : cells' ≤ R.cells ∧ slots' ≤ R.slots) (hd : decode cc pc = .ok (.newarray atype, 2)) (k : gi_G p l e R s m args below meth c A nL cells' slots' Q (mk_I D cs b0 S' h) (pc + 2) lv (.ref (mk_ad b0 n) :: st)) : gi_G p l e R s m args below meth c A nL cells slots Q (mk_I D cs b0 S h) pc lv (.int v :: st) := by
  subst hn; subst hS'; subst hc1; subst hs1; subst hty
  intro H locs ls hI hS hl
  refine va_newaK E.1 E.2.1 (E.2.2.2.2.1 _ harr) rfl hd rfl hv hN hbytes hR.1 hR.2 rfl fun H1 cA e1 z1 o1 hAr hNm => ?_
  have hcA : cA = cs t := Option.some.inj (hNm.symm.trans (hra s _ (E.2.2.2.2.2.1.2 t _ ht).2))
  subst hcA
  have hat : va_at D vwCl (H.size, hp_E cs (mk_ad b0) h S.length (.inr (t, N))) H1 := by
    show H1[H.size]? = some (vp_cell (cs t) (N, hp_A h S.length t))
    rw [hcell]; exact e1
  have K := k H1 locs ls (mk_grow _ hI z1 o1 hat) ⟨Nat.le_trans hS.1 (by omega), fun x h1 h2 => (o1 x (Nat.lt_of_lt_of_le h1 hS.1)).trans (hS.2.1 x h1 h2), hS.2.2⟩ hl
  rw [show mk_ad b0 S.length = H.size from hI.1.symm] at K
  exact K
theorem mk_ci {cA : ClassId} {n k : Nat} (hz : ∀ j, h k j = 0) : vp_cell cA (n, hp_A h k 0) = arrV cA n (fun _ => defaultValue .int) := by
  simp only [hp_A, vp_cell, hz, defaultValue]
theorem mk_cz {cA : ClassId} {n k : Nat} (hz : ∀ j, h k j = 0) : vp_cell cA (n, hp_A h k 2) = arrV cA n (fun _ => defaultValue .boolean) := by
  simp only [hp_A, vp_cell, hz, defaultValue]
theorem mk_cl {cA : ClassId} {n k : Nat} (hz : ∀ j, h k j = 0) : vp_cell cA (n, hp_A h k 1) = arrV cA n (fun _ => defaultValue .long) := by
  have e : hp_mk 0 0 = 0 := by decide +kernel
  simp only [hp_A, vp_cell, hp_ldL, hz, e, defaultValue]
theorem mk_nai (E : hp_Env p R s m args meth c cs D own cc nL ret) {n cells' slots' N : Nat} {v : Int32} {S' : List hp_S} (harr : Cond.arrayClass .int ∈ hp_tbl) (hn : S.length = n) (hz : ∀ j, h n j = 0) (hS' : S ++ [.inr (0, N)] = S') (hv : ¬ v < 0) (hN : v.toNatClampNeg = N) (hbytes : N * 4 ≤ 536870912) (hc1 : cells + 1 = cells') (hs1 : slots + N = slots') (hR : cells' ≤ R.cells ∧ slots' ≤ R.slots) (hd : decode cc pc = .ok (.newarray .int, 2)) (k : gi_G p l e R s m args below meth c A nL cells' slots' Q (mk_I D cs b0 S' h) (pc + 2) lv (.ref (mk_ad b0 n) :: st)) : gi_G p l e R s m args below meth c A nL cells slots Q (mk_I D cs b0 S h) pc lv (.int v :: st) :=
  mk_newa (ty := .int) (t := 0) E rfl harr rfl (fun _ _ q => q) hn hz (mk_ci hz) hS' hv hN hbytes hc1 hs1 hR hd k
theorem mk_naz (E : hp_Env p R s m args meth c cs D own cc nL ret) {n cells' slots' N : Nat} {v : Int32} {S' : List hp_S} (harr : Cond.arrayClass .boolean ∈ hp_tbl) (hn : S.length = n) (hz : ∀ j, h n j = 0) (hS' : S ++ [.inr (2, N)] = S') (hv : ¬ v < 0) (hN : v.toNatClampNeg = N) (hbytes : N * 1 ≤ 536870912) (hc1 : cells + 1 = cells') (hs1 : slots + N = slots') (hR : cells' ≤ R.cells ∧ slots' ≤ R.slots) (hd : decode cc pc = .ok (.newarray .boolean, 2)) (k : gi_G p l e R s m args below meth c A nL cells' slots' Q (mk_I D cs b0 S' h) (pc + 2) lv (.ref (mk_ad b0 n) :: st)) : gi_G p l e R s m args below meth c A nL cells slots Q (mk_I D cs b0 S h) pc lv (.int v :: st) :=
  mk_newa (ty := .boolean) (t := 2) E rfl harr rfl (fun _ _ q => q) hn hz (mk_cz hz) hS' hv hN hbytes hc1 hs1 hR hd k
theorem mk_nal (E : hp_Env p R s m args meth c cs D own cc nL ret) {n cells' slots' N : Nat} {v : Int32} {S' : List hp_S} (harr : Cond.arrayClass .long ∈ hp_tbl) (hn : S.length = n) (hz : ∀ j, h n j = 0) (hS' : S ++ [.inr (1, N)] = S') (hv : ¬ v < 0) (hN : v.toNatClampNeg = N) (hbytes : N * 8 ≤ 536870912) (hc1 : cells + 1 = cells') (hs1 : slots + N = slots') (hR : cells' ≤ R.cells ∧ slots' ≤ R.slots) (hd : decode cc pc = .ok (.newarray .long, 2)) (k : gi_G p l e R s m args below meth c A nL cells' slots' Q (mk_I D cs b0 S' h) (pc + 2) lv (.ref (mk_ad b0 n) :: st)) : gi_G p l e R s m args below meth c A nL cells slots Q (mk_I D cs b0 S h) pc lv (.int v :: st) :=
  mk_newa (ty := .long) (t := 1) E rfl harr rfl (fun _ _ q => q) hn hz (mk_cl hz) hS' hv hN hbytes hc1 hs1 hR hd k
end
def mk_Pc (av : List Value) (I : Heap → Prop) (cs : Nat → ClassId) (D : va_G) : Array Value → State → Prop := va_Pc av (fun U => I U.heap ∧ va_K D vwCl (hp_tys cs) U ∧ hp_N U)
theorem mk_Pc_blind {av : List Value} {I : Heap → Prop} {cs : Nat → ClassId} {D : va_G} : FrameBlind (mk_Pc av I cs D) := by
  intro a U g mk q
  obtain ⟨q0, qP, qK, qN⟩ := q
  exact ⟨q0, qP, va_K.moved (u := U) (U := U.calling g mk a) (Vm.Alike.refl U.vm) qK, fun w hw => va_Nw.same rfl (u := U) (U := U.calling g mk a) rfl (qN w hw)⟩
abbrev mk_Qc (J : Heap → Prop) (A : Nat → Prop) : Array Value → State → Outcome → State → Prop := va_Qv (fun _ : Unit => True) (fun _ t => J t.heap) A
abbrev mk_M (l : Launch) (y : MethodName) (cc : ByteArray) (nL : Nat) (rm : Room) (av : List Value) (cs : Nat → ClassId) (D : va_G) (b0 : Nat) (S : List hp_S) (h : hp_H) (S' : List hp_S) (h' : hp_H) (mc ms : Nat) : Prop := Met l y (.code y cc nL none :: hp_tbl) rm (mk_Pc av (mk_I D cs b0 S h) cs D) (mk_Qc (mk_I D cs b0 S' h') (mk_A b0)) mc ms (mk_A b0)
theorem mk_met {l : Launch} {y : MethodName} {cc : ByteArray} {nL mc ms : Nat} {rm : Room} {av : List Value} {I : Heap → Prop} {cs : Nat → ClassId} {A : Nat → Prop} {D : va_G} {Qc : Array Value → State → Outcome → State → Prop} {own : String} (ho : y.cls = own) (hy : plainName y.cls = true) (hni : y.name = "<init>") (hn : (lg_sl av).length ≤ nL) (h1 : hp_all1 av = true)
    (body : ∀ (p : Program) (e : Env) (s : State) (m : MethodId) (args : Array Value) (below : List Frame) (meth : Method) (c : Code) (Z : State → Prop), hp_Env p rm s m args meth c cs D own cc nL none → Z = MQ below Qc args s mc ms A → meth.name = "<init>" → gi_G p l e rm s m args below meth c A nL 0 0 Z I 0 (lv_args 0 av) []) : Met l y (.code y cc nL none :: hp_tbl) rm (mk_Pc av I cs D) Qc mc ms A := by
  subst ho
  refine Met.ofW (cc := cc) (maxL := nL) (ret := none) hy rfl ?_
  intro p e s m args below meth c s₁ B hml hv
  obtain ⟨rfl, hP, hK, hN⟩ := hv
  have hts := atoms_spec (ws := Cond.code y cc nL none :: hp_tbl) B.pre
  have E : hp_Env p rm s m av.toArray meth c cs D y.cls cc nL none := ⟨B.exec, B.bytes, hml, findClass_of_methodNamed B.named, fun w hw => hts w (List.mem_cons_of_mem _ hw), hK, B.notSynchronized, B.returns, hN⟩
  have K := body p e s m _ below meth c _ E rfl ((name_of_methodNamed B.named B.method).1.trans hni)
  have hl := lv_entry av hn
  rw [lg_entry_eq]
  exact K s.heap [] _ hP va_S.rf ⟨hl, hp_all1_args av 0 h1⟩
section
variable {p : Program} {l : Launch} {e : Env} {R : Room} {s : State} {m : MethodId} {args : Array Value} {below : List Frame} {meth : Method} {c : Code} {cs : Nat → ClassId} {A : Nat → Prop} {D : va_G} {own : String} {cc : ByteArray} {ret : Option FieldType} {nL cells slots : Nat} {Q : State → Prop}
variable {pc : Nat} {lv : List (Nat × Value)} {st : List Value} {I J : Heap → Prop} {y : MethodName} {c1 : ByteArray} {n1 n idx mc ms cells' slots' a : Nat} {rm : Room} {As rest : List Value}
theorem mk_ret (E : hp_Env p R s m args meth c cs D own cc nL none) (hZ : Q = MQ below (mk_Qc I A) args s cells slots A) (hd : decode cc pc = .ok (.return_, 1)) : gi_G p l e R s m args below meth c A nL cells slots Q I pc lv [] := by
  subst hZ
  exact fun H locs ls hP hS hl => W.vret E.1 E.2.1 E.2.2.2.2.2.2.2.1 (fun t ht hW => ⟨⟨(), rfl, trivial, by show I _; rw [ht]; exact hP⟩, hS.F ht⟩) hS.2.2 hd E.2.2.2.2.2.2.1
theorem mk_call {A1 : Nat → Prop} (E : hp_Env p R s m args meth c cs D own cc nL ret) (hM : Met l y (.code y c1 n1 none :: hp_tbl) rm (mk_Pc (.ref a :: As) I cs D) (mk_Qc J A1) mc ms A1) (hA : ∀ q, A1 q → A q) (F : hp_Fi y c1 n1 n) (hm : Cond.methodLink own idx y ∈ hp_tbl) (hrm : rm.cells = mc ∧ rm.slots = ms) (hR : rm.frames + 1 ≤ R.frames ∧ 8 + (n1 + 11) + rm.locals ≤ R.locals) (hc1 : cells + mc = cells') (hs1 : slots + ms = slots') (hR2 : cells' ≤ R.cells ∧ slots' ≤ R.slots) (hn : As.length = n) (hst : st = As.reverse ++ .ref a :: rest) (hW : (rest.map fun v => v.category).sum ≤ 8) (hd : decode cc pc = .ok (.invokespecial idx, 3)) {I' J' : Heap → Prop} (hI : ∀ H, I' H → I H) (hJ : ∀ H H1, I' H → H.size ≤ H1.size → (∀ q : Nat, q < H.size → ¬ A1 q → H1[q]? = H[q]?) → J H1 → J' H1) (k : gi_G p l e R s m args below meth c A nL cells' slots' Q J' (pc + 3) lv rest) : gi_G p l e R s m args below meth c A nL cells slots Q I' pc lv st := by
  subst hc1; subst hs1
  have hts := E.2.2.2.2.1
  have hK := E.2.2.2.2.2.1
  intro H locs ls hP hS hl
  exact va_callv (va_runI (n := n) ⟨E.1, E.2.1, E.2.2.1, E.2.2.2.1, hts⟩ hM ⟨callB_of n hts (hp_good F.2.2.1) rfl hrm.1 hrm.2 (hts _ F.2.1) (hts _ hm) F.2.2.2.1 hR, F.2.2.2.2, hts _ F.1⟩ ⟨mk_Pc_blind, fun U hU hW => ⟨rfl, by rw [hU]; exact hI _ hP, va_K.moved hW.alike hK, E.2.2.2.2.2.2.2.2.warm hW⟩⟩ rfl hn hl.1.1 hst (lv_room hW) hd hR2) hS (fun q _ h1 => hA q h1) hA (fun u t H1 locs1 ht _ hw hB hz hk hS1 => k H1 locs1 ls (hJ H H1 hP hz hk (by rw [← ht]; exact hB)) hS1 hl)
theorem mk_callN {host : String} (E : hp_Env p R s m args meth c cs D own cc nL ret) (hM : Met l y (.code y c1 n1 none :: hp_tbl) rm (mk_Pc (.ref a :: As) I cs D) (mk_Qc J A) mc ms A) (F : hp_Fi y c1 n1 n) (hm : (own, idx, y, host) ∈ hp_nst) (hrm : rm.cells = mc ∧ rm.slots = ms) (hR : rm.frames + 1 ≤ R.frames ∧ 8 + (n1 + 11) + rm.locals ≤ R.locals) (hc1 : cells + mc = cells') (hs1 : slots + ms = slots') (hR2 : cells' ≤ R.cells ∧ slots' ≤ R.slots) (hn : As.length = n) (hst : st = As.reverse ++ .ref a :: rest) (hW : (rest.map fun v => v.category).sum ≤ 8) (hd : decode cc pc = .ok (.invokespecial idx, 3)) (k : gi_G p l e R s m args below meth c A nL cells' slots' Q J (pc + 3) lv rest) : gi_G p l e R s m args below meth c A nL cells slots Q I pc lv st := by
  subst hc1; subst hs1
  have hts := E.2.2.2.2.1
  have hK := E.2.2.2.2.2.1
  intro H locs ls hP hS hl
  exact va_callv (va_runIN (n := n) ⟨E.1, E.2.1, E.2.2.1, E.2.2.2.1, hts⟩ hM ⟨va_cnB n hts (hp_good F.2.2.1) rfl hrm.1 hrm.2 (E.2.2.2.2.2.2.2.2 _ hm) (hts _ F.2.1) F.2.2.2.1 hR, F.2.2.2.2, hts _ F.1⟩ ⟨mk_Pc_blind, fun U hU hW => ⟨rfl, by rw [hU]; exact hP, va_K.moved hW.alike hK, E.2.2.2.2.2.2.2.2.warm hW⟩⟩ rfl hn hl.1.1 hst (lv_room hW) hd hR2) hS (fun q _ h1 => h1) (fun _ h1 => h1) (fun u t H1 locs1 ht _ hw hB hz hk hS1 => k H1 locs1 ls (by rw [← ht]; exact hB) hS1 hl)
theorem mk_callP (E : hp_Env p R s m args meth c cs D own cc nL ret) (hM : Met l y (.code y c1 n1 none :: hp_tbl) rm (mk_Pc (.ref a :: As) I cs D) (mk_Qc J A) mc ms A) (F : hp_Fi y c1 n1 n) (hm : Cond.methodLink own idx y ∈ hp_tbl) (hrm : rm.cells = mc ∧ rm.slots = ms) (hR : rm.frames + 1 ≤ R.frames ∧ 8 + (n1 + 11) + rm.locals ≤ R.locals) (hc1 : cells + mc = cells') (hs1 : slots + ms = slots') (hR2 : cells' ≤ R.cells ∧ slots' ≤ R.slots) (hn : As.length = n) (hst : st = As.reverse ++ .ref a :: rest) (hW : (rest.map fun v => v.category).sum ≤ 8) (hd : decode cc pc = .ok (.invokespecial idx, 3)) (k : gi_G p l e R s m args below meth c A nL cells' slots' Q J (pc + 3) lv rest) : gi_G p l e R s m args below meth c A nL cells slots Q I pc lv st :=
  mk_call E hM (fun _ q => q) F hm hrm hR hc1 hs1 hR2 hn hst hW hd (fun _ q => q) (fun _ _ _ _ _ q => q) k
end
