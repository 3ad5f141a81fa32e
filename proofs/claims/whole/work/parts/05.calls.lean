/-! ===== methods, calls ===== -/
def hp_Pc (av : List Value) (S : List hp_S) (cs : Nat → ClassId) (ad : Nat → Nat) (D : va_G) (h : hp_H) : Array Value → State → Prop := va_Pc av (fun U => va_P D vwCl (hp_W S cs ad h) U.heap ∧ va_K D vwCl (hp_tys cs) U ∧ hp_N U)
theorem hp_Pc_blind {av : List Value} {S : List hp_S} {cs : Nat → ClassId} {ad : Nat → Nat} {D : va_G} {h : hp_H} : FrameBlind (hp_Pc av S cs ad D h) := by
  intro a U g mk q
  obtain ⟨q0, qP, qK, qN⟩ := q
  exact ⟨q0, qP, va_K.moved (u := U) (U := U.calling g mk a) (Vm.Alike.refl U.vm) qK, fun w hw => va_Nw.same rfl (u := U) (U := U.calling g mk a) rfl (qN w hw)⟩
theorem hp_N.warm {s U : State} (hW : s.WarmedH U.vm) (h : hp_N s) : hp_N U := fun q hq => va_Nw.warmM hW (h q hq)
theorem lw_good : hp_tbl.all goodWord = true := List.all_eq_true.mpr (fun w hw => (List.mem_filter.mp hw).2)
theorem hp_good {y : MethodName} {cc : ByteArray} {n : Nat} {ret : Option FieldType} (hm : Cond.code y cc n ret ∈ hp_tbl) : GoodIn hp_tbl (.code y cc n ret :: hp_tbl) := by
  intro w hw
  rcases List.mem_cons.mp hw with h | h
  · rw [h]; exact ⟨hm, good_of_word (List.all_eq_true.mp lw_good _ hm)⟩
  · exact ⟨h, good_of_word (List.all_eq_true.mp lw_good _ h)⟩
abbrev hp_Mi (l : Launch) (y : MethodName) (cc : ByteArray) (nL : Nat) (ret : Option FieldType) (rm : Room) (av : List Value) (S : List hp_S) (cs : Nat → ClassId) (ad : Nat → Nat) (A : Nat → Prop) (D : va_G) (h : hp_H) (Q : Int32 → hp_H → Prop) : Prop := Met l y (.code y cc nL ret :: hp_tbl) rm (hp_Pc av S cs ad D h) (va_Qi Q (hp_B S cs ad D) A) 0 0 A
abbrev hp_Mv (l : Launch) (y : MethodName) (cc : ByteArray) (nL : Nat) (ret : Option FieldType) (rm : Room) (av : List Value) (S : List hp_S) (cs : Nat → ClassId) (ad : Nat → Nat) (A : Nat → Prop) (D : va_G) (h : hp_H) (Q : hp_H → Prop) : Prop := Met l y (.code y cc nL ret :: hp_tbl) rm (hp_Pc av S cs ad D h) (va_Qv Q (hp_B S cs ad D) A) 0 0 A
abbrev hp_Mr (l : Launch) (y : MethodName) (cc : ByteArray) (nL : Nat) (ret : Option FieldType) (rm : Room) (av : List Value) (S : List hp_S) (cs : Nat → ClassId) (ad : Nat → Nat) (A : Nat → Prop) (D : va_G) (r : Nat) (h : hp_H) (Q : hp_H → Prop) : Prop := Met l y (.code y cc nL ret :: hp_tbl) rm (hp_Pc av S cs ad D h) (va_Qr Q (hp_Br S cs ad D r) A) 0 0 A
theorem hp_met {l : Launch} {y : MethodName} {cc : ByteArray} {nL mc ms : Nat} {ret : Option FieldType} {rm : Room} {av : List Value} {S : List hp_S} {cs : Nat → ClassId} {ad : Nat → Nat} {A : Nat → Prop} {D : va_G} {h : hp_H} {Qc : Array Value → State → Outcome → State → Prop} {own : String} (ho : y.cls = own) (hy : plainName y.cls = true) (hn : (lg_sl av).length ≤ nL) (h1 : hp_all1 av = true)
    (body : ∀ (p : Program) (e : Env) (s : State) (m : MethodId) (args : Array Value) (below : List Frame) (meth : Method) (c : Code) (Z : State → Prop), hp_Env p rm s m args meth c cs D own cc nL ret → Z = MQ below Qc args s mc ms A → meth.name = y.name → hp_G p l e rm s m args below meth c S cs ad A D nL 0 0 Z 0 (lv_args 0 av) [] h) : Met l y (.code y cc nL ret :: hp_tbl) rm (hp_Pc av S cs ad D h) Qc mc ms A := by
  subst ho
  refine Met.ofW (cc := cc) (maxL := nL) (ret := ret) hy rfl ?_
  intro p e s m args below meth c s₁ B hml hv
  obtain ⟨rfl, hP, hK, hN⟩ := hv
  have hts := atoms_spec (ws := Cond.code y cc nL ret :: hp_tbl) B.pre
  have E : hp_Env p rm s m av.toArray meth c cs D y.cls cc nL ret := ⟨B.exec, B.bytes, hml, findClass_of_methodNamed B.named, fun w hw => hts w (List.mem_cons_of_mem _ hw), hK, B.notSynchronized, B.returns, hN⟩
  have K := body p e s m _ below meth c _ E rfl (name_of_methodNamed B.named B.method).1
  have hl := lv_entry av hn
  rw [lg_entry_eq]
  exact K s.heap [] _ hP va_S.rf ⟨hl, hp_all1_args av 0 h1⟩
/-- what the tables say of a method that is called on an object, of one without an object -/
def hp_Fv (C : String) (y : MethodName) (cc : ByteArray) (nL : Nat) (ret : Option FieldType) (n : Nat) : Prop := Cond.instanceMethod y ∈ hp_tbl ∧ Cond.selects C y y ∈ hp_tbl ∧ Cond.initialized y.cls ∈ hp_tbl ∧ Cond.code y cc nL ret ∈ hp_tbl ∧ (y.cls ≠ "java/lang/invoke/MethodHandle" ∧ y.cls ≠ "java/lang/invoke/VarHandle" ∧ (parseMethodDescriptor y.desc).map (fun d => d.parameters.length) = some n)
def hp_Fs (y : MethodName) (cc : ByteArray) (nL : Nat) (ret : Option FieldType) (n : Nat) : Prop := Cond.static y ∈ hp_tbl ∧ Cond.initialized y.cls ∈ hp_tbl ∧ Cond.code y cc nL ret ∈ hp_tbl ∧ (y.cls ≠ "java/lang/invoke/MethodHandle" ∧ y.cls ≠ "java/lang/invoke/VarHandle" ∧ (parseMethodDescriptor y.desc).map (fun d => d.parameters.length) = some n)
section
variable {p : Program} {l : Launch} {e : Env} {R : Room} {s : State} {m : MethodId} {args : Array Value} {below : List Frame} {meth : Method} {c : Code} {S : List hp_S} {cs : Nat → ClassId} {ad : Nat → Nat} {A : Nat → Prop} {D : va_G} {own : String} {cc : ByteArray} {ret : Option FieldType} {nL cells slots : Nat} {Q : State → Prop}
variable {pc : Nat} {lv : List (Nat × Value)} {st : List Value} {h : hp_H}
variable {y : MethodName} {C : String} {c1 : ByteArray} {n1 n idx ci N : Nat} {ret1 : Option FieldType} {rm : Room} {As rest : List Value} {ds : List (Nat × Nat × Nat)} {T : u_T}
theorem hp_runV {Qc : Array Value → State → Outcome → State → Prop} {H : Heap} {locs : List Loc} {ls : Array Slot} (E : hp_Env p R s m args meth c cs D own cc nL ret) (k0 : Nat) (hs : S[k0]? = some (.inl (ci, ds))) (hc : vwCl[ci]? = some (C, T, N)) (hM : Met l y (.code y c1 n1 ret1 :: hp_tbl) rm (hp_Pc (.ref (ad k0) :: As) S cs ad D h) Qc 0 0 A) (F : hp_Fv C y c1 n1 ret1 n) (hm : Cond.methodLink own idx y ∈ hp_tbl) (hrm : rm.cells = 0 ∧ rm.slots = 0) (hR : rm.frames + 1 ≤ R.frames ∧ 8 + (n1 + 11) + rm.locals ≤ R.locals) (hR2 : cells ≤ R.cells ∧ slots ≤ R.slots) (hn : As.length = n) (hst : st = As.reverse ++ .ref (ad k0) :: rest) (hW : (rest.map fun v => v.category).sum ≤ 8) (hd : decode cc pc = .ok (.invokevirtual idx, 3)) (hP : va_P D vwCl (hp_W S cs ad h) H) (hl : hp_L ls nL lv) :
    va_Run p l e R s m args below meth c H locs cells slots 0 0 (F0 m pc ls st) rest (Qc (Value.ref (ad k0) :: As).toArray) A := by
  have hts := E.2.2.2.2.1
  have hK := E.2.2.2.2.2.1
  exact va_runV (C := C) (n := n) ⟨E.1, E.2.1, E.2.2.1, E.2.2.2.1, hts⟩ hM ⟨callB_of n hts (hp_good F.2.2.2.1) rfl hrm.1 hrm.2 (hts _ F.2.2.1) (hts _ hm) F.2.2.2.2 hR, hts _ F.1, hts _ F.2.1⟩ ⟨hp_Pc_blind, va_recv hK hP hc (hp_W_get hs), fun U hU hW => ⟨rfl, by rw [hU]; exact hP, va_K.moved hW.alike hK, E.2.2.2.2.2.2.2.2.warm hW⟩⟩ rfl hn hl.1.1 hst (lv_room hW) hd hR2
theorem hp_runS {Qc : Array Value → State → Outcome → State → Prop} {H : Heap} {locs : List Loc} {ls : Array Slot} (E : hp_Env p R s m args meth c cs D own cc nL ret) (hM : Met l y (.code y c1 n1 ret1 :: hp_tbl) rm (hp_Pc As S cs ad D h) Qc 0 0 A) (F : hp_Fs y c1 n1 ret1 n) (hm : Cond.methodLink own idx y ∈ hp_tbl) (hrm : rm.cells = 0 ∧ rm.slots = 0) (hR : rm.frames + 1 ≤ R.frames ∧ 8 + (n1 + 11) + rm.locals ≤ R.locals) (hR2 : cells ≤ R.cells ∧ slots ≤ R.slots) (hn : As.length = n) (hst : st = As.reverse ++ rest) (hW : (rest.map fun v => v.category).sum ≤ 8) (hd : decode cc pc = .ok (.invokestatic idx, 3)) (hP : va_P D vwCl (hp_W S cs ad h) H) (hl : hp_L ls nL lv) :
    va_Run p l e R s m args below meth c H locs cells slots 0 0 (F0 m pc ls st) rest (Qc As.toArray) A := by
  have hts := E.2.2.2.2.1
  have hK := E.2.2.2.2.2.1
  exact va_runS (n := n) ⟨E.1, E.2.1, E.2.2.1, E.2.2.2.1, hts⟩ hM ⟨callB_of n hts (hp_good F.2.2.1) rfl hrm.1 hrm.2 (hts _ F.2.1) (hts _ hm) F.2.2.2 hR, hts _ F.1⟩ ⟨hp_Pc_blind, fun U hU hW => ⟨rfl, by rw [hU]; exact hP, va_K.moved hW.alike hK, E.2.2.2.2.2.2.2.2.warm hW⟩⟩ rfl hn hl.1.1 hst (lv_room hW) hd hR2
theorem hp_runSN {Qc : Array Value → State → Outcome → State → Prop} {H : Heap} {locs : List Loc} {ls : Array Slot} {host : String} (E : hp_Env p R s m args meth c cs D own cc nL ret) (hM : Met l y (.code y c1 n1 ret1 :: hp_tbl) rm (hp_Pc As S cs ad D h) Qc 0 0 A) (F : hp_Fs y c1 n1 ret1 n) (hm : (own, idx, y, host) ∈ hp_nst) (hrm : rm.cells = 0 ∧ rm.slots = 0) (hR : rm.frames + 1 ≤ R.frames ∧ 8 + (n1 + 11) + rm.locals ≤ R.locals) (hR2 : cells ≤ R.cells ∧ slots ≤ R.slots) (hn : As.length = n) (hst : st = As.reverse ++ rest) (hW : (rest.map fun v => v.category).sum ≤ 8) (hd : decode cc pc = .ok (.invokestatic idx, 3)) (hP : va_P D vwCl (hp_W S cs ad h) H) (hl : hp_L ls nL lv) :
    va_Run p l e R s m args below meth c H locs cells slots 0 0 (F0 m pc ls st) rest (Qc As.toArray) A := by
  have hts := E.2.2.2.2.1
  have hK := E.2.2.2.2.2.1
  exact va_runSN (n := n) ⟨E.1, E.2.1, E.2.2.1, E.2.2.2.1, hts⟩ hM ⟨va_cnB n hts (hp_good F.2.2.1) rfl hrm.1 hrm.2 (E.2.2.2.2.2.2.2.2 _ hm) (hts _ F.2.1) F.2.2.2 hR, hts _ F.1, trivial⟩ ⟨hp_Pc_blind, fun U hU hW => ⟨rfl, by rw [hU]; exact hP, va_K.moved hW.alike hK, E.2.2.2.2.2.2.2.2.warm hW⟩⟩ rfl hn hl.1.1 hst (lv_room hW) hd hR2
/-- behind a call -/
theorem hp_conti {Qr : Int32 → hp_H → Prop} {a : Array Value} (run : ∀ (H : Heap) (locs : List Loc) (ls : Array Slot), va_P D vwCl (hp_W S cs ad h) H → hp_L ls nL lv → va_Run p l e R s m args below meth c H locs cells slots 0 0 (F0 m pc ls st) rest (va_Qi Qr (hp_B S cs ad D) A a) A) (k : ∀ (r : Int32) (h : hp_H), Qr r h → hp_G p l e R s m args below meth c S cs ad A D nL cells slots Q (pc + 3) lv (.int r :: rest) h) : hp_G p l e R s m args below meth c S cs ad A D nL cells slots Q pc lv st h :=
  fun H locs ls hP hS hl => va_calli (run H locs ls hP hl) hS (fun _ _ q => q) (fun _ q => q) (fun r u t H1 locs1 ht _ hw hB _ _ hS1 => k r u hw H1 locs1 ls (by rw [← ht]; exact hB) hS1 hl)
theorem hp_contv {Qr : hp_H → Prop} {a : Array Value} (run : ∀ (H : Heap) (locs : List Loc) (ls : Array Slot), va_P D vwCl (hp_W S cs ad h) H → hp_L ls nL lv → va_Run p l e R s m args below meth c H locs cells slots 0 0 (F0 m pc ls st) rest (va_Qv Qr (hp_B S cs ad D) A a) A) (k : ∀ (h : hp_H), Qr h → hp_G p l e R s m args below meth c S cs ad A D nL cells slots Q (pc + 3) lv rest h) : hp_G p l e R s m args below meth c S cs ad A D nL cells slots Q pc lv st h :=
  fun H locs ls hP hS hl => va_callv (run H locs ls hP hl) hS (fun _ _ q => q) (fun _ q => q) (fun u t H1 locs1 ht _ hw hB _ _ hS1 => k u hw H1 locs1 ls (by rw [← ht]; exact hB) hS1 hl)
theorem hp_contr {Qr : hp_H → Prop} {a : Array Value} {r : Nat} (run : ∀ (H : Heap) (locs : List Loc) (ls : Array Slot), va_P D vwCl (hp_W S cs ad h) H → hp_L ls nL lv → va_Run p l e R s m args below meth c H locs cells slots 0 0 (F0 m pc ls st) rest (va_Qr Qr (hp_Br S cs ad D r) A a) A) (k : ∀ (h : hp_H), Qr h → hp_G p l e R s m args below meth c S cs ad A D nL cells slots Q (pc + 3) lv (.ref (ad r) :: rest) h) : hp_G p l e R s m args below meth c S cs ad A D nL cells slots Q pc lv st h :=
  fun H locs ls hP hS hl => va_callr (run H locs ls hP hl) hS (fun _ _ q => q) (fun _ q => q) (fun u ra t H1 locs1 ht _ hw hB _ _ hS1 => by rw [hB.1]; exact k u hw H1 locs1 ls (by rw [← ht]; exact hB.2) hS1 hl)
theorem hp_callVi {Qr : Int32 → hp_H → Prop} (E : hp_Env p R s m args meth c cs D own cc nL ret) (k0 : Nat) (hs : S[k0]? = some (.inl (ci, ds))) (hc : vwCl[ci]? = some (C, T, N)) (hM : hp_Mi l y c1 n1 ret1 rm (.ref (ad k0) :: As) S cs ad A D h Qr) (F : hp_Fv C y c1 n1 ret1 n) (hm : Cond.methodLink own idx y ∈ hp_tbl) (hrm : rm.cells = 0 ∧ rm.slots = 0) (hR : rm.frames + 1 ≤ R.frames ∧ 8 + (n1 + 11) + rm.locals ≤ R.locals) (hR2 : cells ≤ R.cells ∧ slots ≤ R.slots) (hn : As.length = n) (hst : st = As.reverse ++ .ref (ad k0) :: rest) (hW : (rest.map fun v => v.category).sum ≤ 8) (hd : decode cc pc = .ok (.invokevirtual idx, 3)) (k : ∀ (r : Int32) (h : hp_H), Qr r h → hp_G p l e R s m args below meth c S cs ad A D nL cells slots Q (pc + 3) lv (.int r :: rest) h) : hp_G p l e R s m args below meth c S cs ad A D nL cells slots Q pc lv st h :=
  hp_conti (fun _ _ _ hP hl => hp_runV E k0 hs hc hM F hm hrm hR hR2 hn hst hW hd hP hl) k
theorem hp_callVv {Qr : hp_H → Prop} (E : hp_Env p R s m args meth c cs D own cc nL ret) (k0 : Nat) (hs : S[k0]? = some (.inl (ci, ds))) (hc : vwCl[ci]? = some (C, T, N)) (hM : hp_Mv l y c1 n1 ret1 rm (.ref (ad k0) :: As) S cs ad A D h Qr) (F : hp_Fv C y c1 n1 ret1 n) (hm : Cond.methodLink own idx y ∈ hp_tbl) (hrm : rm.cells = 0 ∧ rm.slots = 0) (hR : rm.frames + 1 ≤ R.frames ∧ 8 + (n1 + 11) + rm.locals ≤ R.locals) (hR2 : cells ≤ R.cells ∧ slots ≤ R.slots) (hn : As.length = n) (hst : st = As.reverse ++ .ref (ad k0) :: rest) (hW : (rest.map fun v => v.category).sum ≤ 8) (hd : decode cc pc = .ok (.invokevirtual idx, 3)) (k : ∀ (h : hp_H), Qr h → hp_G p l e R s m args below meth c S cs ad A D nL cells slots Q (pc + 3) lv rest h) : hp_G p l e R s m args below meth c S cs ad A D nL cells slots Q pc lv st h :=
  hp_contv (fun _ _ _ hP hl => hp_runV E k0 hs hc hM F hm hrm hR hR2 hn hst hW hd hP hl) k
theorem hp_callVr {Qr : hp_H → Prop} {r : Nat} (E : hp_Env p R s m args meth c cs D own cc nL ret) (k0 : Nat) (hs : S[k0]? = some (.inl (ci, ds))) (hc : vwCl[ci]? = some (C, T, N)) (hM : hp_Mr l y c1 n1 ret1 rm (.ref (ad k0) :: As) S cs ad A D r h Qr) (F : hp_Fv C y c1 n1 ret1 n) (hm : Cond.methodLink own idx y ∈ hp_tbl) (hrm : rm.cells = 0 ∧ rm.slots = 0) (hR : rm.frames + 1 ≤ R.frames ∧ 8 + (n1 + 11) + rm.locals ≤ R.locals) (hR2 : cells ≤ R.cells ∧ slots ≤ R.slots) (hn : As.length = n) (hst : st = As.reverse ++ .ref (ad k0) :: rest) (hW : (rest.map fun v => v.category).sum ≤ 8) (hd : decode cc pc = .ok (.invokevirtual idx, 3)) (k : ∀ (h : hp_H), Qr h → hp_G p l e R s m args below meth c S cs ad A D nL cells slots Q (pc + 3) lv (.ref (ad r) :: rest) h) : hp_G p l e R s m args below meth c S cs ad A D nL cells slots Q pc lv st h :=
  hp_contr (fun _ _ _ hP hl => hp_runV E k0 hs hc hM F hm hrm hR hR2 hn hst hW hd hP hl) k
theorem hp_callSi {Qr : Int32 → hp_H → Prop} (E : hp_Env p R s m args meth c cs D own cc nL ret) (hM : hp_Mi l y c1 n1 ret1 rm As S cs ad A D h Qr) (F : hp_Fs y c1 n1 ret1 n) (hm : Cond.methodLink own idx y ∈ hp_tbl) (hrm : rm.cells = 0 ∧ rm.slots = 0) (hR : rm.frames + 1 ≤ R.frames ∧ 8 + (n1 + 11) + rm.locals ≤ R.locals) (hR2 : cells ≤ R.cells ∧ slots ≤ R.slots) (hn : As.length = n) (hst : st = As.reverse ++ rest) (hW : (rest.map fun v => v.category).sum ≤ 8) (hd : decode cc pc = .ok (.invokestatic idx, 3)) (k : ∀ (r : Int32) (h : hp_H), Qr r h → hp_G p l e R s m args below meth c S cs ad A D nL cells slots Q (pc + 3) lv (.int r :: rest) h) : hp_G p l e R s m args below meth c S cs ad A D nL cells slots Q pc lv st h :=
  hp_conti (fun _ _ _ hP hl => hp_runS E hM F hm hrm hR hR2 hn hst hW hd hP hl) k
theorem hp_callSv {Qr : hp_H → Prop} (E : hp_Env p R s m args meth c cs D own cc nL ret) (hM : hp_Mv l y c1 n1 ret1 rm As S cs ad A D h Qr) (F : hp_Fs y c1 n1 ret1 n) (hm : Cond.methodLink own idx y ∈ hp_tbl) (hrm : rm.cells = 0 ∧ rm.slots = 0) (hR : rm.frames + 1 ≤ R.frames ∧ 8 + (n1 + 11) + rm.locals ≤ R.locals) (hR2 : cells ≤ R.cells ∧ slots ≤ R.slots) (hn : As.length = n) (hst : st = As.reverse ++ rest) (hW : (rest.map fun v => v.category).sum ≤ 8) (hd : decode cc pc = .ok (.invokestatic idx, 3)) (k : ∀ (h : hp_H), Qr h → hp_G p l e R s m args below meth c S cs ad A D nL cells slots Q (pc + 3) lv rest h) : hp_G p l e R s m args below meth c S cs ad A D nL cells slots Q pc lv st h :=
  hp_contv (fun _ _ _ hP hl => hp_runS E hM F hm hrm hR hR2 hn hst hW hd hP hl) k
theorem hp_callSNi {Qr : Int32 → hp_H → Prop} {host : String} (E : hp_Env p R s m args meth c cs D own cc nL ret) (hM : hp_Mi l y c1 n1 ret1 rm As S cs ad A D h Qr) (F : hp_Fs y c1 n1 ret1 n) (hm : (own, idx, y, host) ∈ hp_nst) (hrm : rm.cells = 0 ∧ rm.slots = 0) (hR : rm.frames + 1 ≤ R.frames ∧ 8 + (n1 + 11) + rm.locals ≤ R.locals) (hR2 : cells ≤ R.cells ∧ slots ≤ R.slots) (hn : As.length = n) (hst : st = As.reverse ++ rest) (hW : (rest.map fun v => v.category).sum ≤ 8) (hd : decode cc pc = .ok (.invokestatic idx, 3)) (k : ∀ (r : Int32) (h : hp_H), Qr r h → hp_G p l e R s m args below meth c S cs ad A D nL cells slots Q (pc + 3) lv (.int r :: rest) h) : hp_G p l e R s m args below meth c S cs ad A D nL cells slots Q pc lv st h :=
  hp_conti (fun _ _ _ hP hl => hp_runSN E hM F hm hrm hR hR2 hn hst hW hd hP hl) k
end
/-! ===== loops and joins as predicates ===== -/
def hp_lp {α : Type} (body : α → (α → Prop) → Prop) (a : α) : Prop := ∀ P : α → Prop, (∀ b, (∃ B : α → Prop, body b B ∧ ∀ x, B x → P x) → P b) → P a
theorem hp_lp_ind {α : Type} {body : α → (α → Prop) → Prop} (I : α → Prop) (μ : α → Nat) (hs : ∀ a, I a → body a (fun b => I b ∧ μ b < μ a)) (a : α) (h : I a) : hp_lp body a := by
  intro P hP
  have key : ∀ n : Nat, ∀ a, μ a < n → I a → P a := by
    intro n
    induction n with
    | zero => intro a h1; omega
    | succ n ih => exact fun a h1 h2 => hP a ⟨_, hs a h2, fun b hb => ih b (by omega) hb.1⟩
  exact key (μ a + 1) a (Nat.lt_succ_self _) h
def hp_jn {α : Type} (f : (α → Prop) → Prop) (g : α → Prop) : Prop := ∃ K : α → Prop, f K ∧ ∀ a, K a → g a
theorem hp_jn_i {α : Type} {f : (α → Prop) → Prop} {g : α → Prop} (h : f g) : hp_jn f g := ⟨g, h, fun _ q => q⟩
/-- the values of a switch, none of which it is -/
theorem hp_out {x : Int32} {lo hi : Int} (h : ∀ i : Int, lo ≤ i → i ≤ hi → ¬ x.toInt = i) : x.toInt < lo ∨ hi < x.toInt := by
  rcases Decidable.em (x.toInt < lo ∨ hi < x.toInt) with q | q
  · exact q
  · exact absurd rfl (h x.toInt (by omega) (by omega))
theorem hp_nat {x : Int32} {n : Nat} (h : ¬ x = nI n) (hn : n < 2 ^ 31) : ¬ x.toInt = (n : Int) := fun q => h (Int32.toInt_inj.mp (by rw [q, nI_toInt hn]))
