/-! ===== the same rows, shorter: what the tables and shapes say comes as one fact ===== -/
def hp_sh (S : List hp_S) (k ci j : Nat) (d : Nat × Nat × Nat) : Prop := ∃ ds : List (Nat × Nat × Nat), S[k]? = some (.inl (ci, ds)) ∧ ds[j]? = some d
def hp_Fg (own : String) (idx ci j : Nat) : Prop := ∃ (C : String) (T : u_T) (N : Nat) (ref : String), vwCl[ci]? = some (C, T, N) ∧ (∀ w ∈ u_ws C T N, w ∈ hp_tbl) ∧ j < N ∧ (T j).1 = ref ∧ Cond.fieldLink own idx ref (T j).2.1 (T j).2.2.1 ∈ hp_tbl
def hp_Fp (own : String) (idx ci j : Nat) (ty : FieldType) : Prop := ∃ (C : String) (T : u_T) (N : Nat) (ref : String) (ty0 : Nat → FieldType), vwCl[ci]? = some (C, T, N) ∧ (∀ w ∈ u_ws C T N, w ∈ hp_tbl) ∧ j < N ∧ (T j).1 = ref ∧ Cond.fieldLink own idx ref (T j).2.1 (T j).2.2.1 ∈ hp_tbl ∧ (∀ k, k < N → parseFieldDescriptor (T k).2.2.1 = some (ty0 k)) ∧ (∀ a, a < N → ∀ b, b < N → a ≠ b → (T a).2.1 ≠ (T b).2.1) ∧ (T j).2.2.2 = false ∧ ty0 j = ty
section
variable {p : Program} {l : Launch} {e : Env} {R : Room} {s : State} {m : MethodId} {args : Array Value} {below : List Frame} {meth : Method} {c : Code} {S : List hp_S} {cs : Nat → ClassId} {ad : Nat → Nat} {A : Nat → Prop} {D : va_G} {own : String} {cc : ByteArray} {ret : Option FieldType} {nL cells slots : Nat} {Q : State → Prop}
variable {pc : Nat} {lv : List (Nat × Value)} {st : List Value} {h : hp_H}
theorem hp_toph {h0 : hp_H} (k : ∀ h : hp_H, h = h0 → hp_G p l e R s m args below meth c S cs ad A D nL cells slots Q (pc) lv (st) h) : hp_G p l e R s m args below meth c S cs ad A D nL cells slots Q (pc) lv (st) h0 := k _ rfl
theorem hp_topw {x : Nat} (k : ∀ w : Nat, w = x → hp_G p l e R s m args below meth c S cs ad A D nL cells slots Q (pc) lv (.ref (ad w) :: st) h) : hp_G p l e R s m args below meth c S cs ad A D nL cells slots Q (pc) lv (.ref (ad x) :: st) h := k _ rfl
theorem hp_gI (E : hp_Env p R s m args meth c cs D own cc nL ret) {k0 j idx ci : Nat} {u : Nat × Nat} (F : hp_Fg own idx ci j) (hs : hp_sh S k0 ci j (0, u)) (hd : decode cc pc = .ok (.getfield idx, 3)) (k : hp_G p l e R s m args below meth c S cs ad A D nL cells slots Q (pc + 3) lv (.int (h k0 j) :: st) h) : hp_G p l e R s m args below meth c S cs ad A D nL cells slots Q (pc) lv (.ref (ad k0) :: st) h := by
  obtain ⟨C, T, N, ref, f1, f2, f3, f4, f5⟩ := F
  obtain ⟨ds, s1, s2⟩ := hs
  exact hp_geti E k0 j s1 s2 f1 f2 f3 f4 f5 hd k
theorem hp_gR (E : hp_Env p R s m args meth c cs D own cc nL ret) {k0 j t u idx ci : Nat} (F : hp_Fg own idx ci j) (hs : hp_sh S k0 ci j (1, t, u)) (hd : decode cc pc = .ok (.getfield idx, 3)) (k : hp_G p l e R s m args below meth c S cs ad A D nL cells slots Q (pc + 3) lv (.ref (ad t) :: st) h) : hp_G p l e R s m args below meth c S cs ad A D nL cells slots Q (pc) lv (.ref (ad k0) :: st) h := by
  obtain ⟨C, T, N, ref, f1, f2, f3, f4, f5⟩ := F
  obtain ⟨ds, s1, s2⟩ := hs
  exact hp_getr E k0 j t s1 s2 f1 f2 f3 f4 f5 hd k
theorem hp_gM (E : hp_Env p R s m args meth c cs D own cc nL ret) {k0 j t u idx ci : Nat} (F : hp_Fg own idx ci j) (hs : hp_sh S k0 ci j (2, t, u)) (hd : decode cc pc = .ok (.getfield idx, 3)) (k : hp_G p l e R s m args below meth c S cs ad A D nL cells slots Q (pc + 3) lv (.ref (ad (t + (h hp_V u).toNatClampNeg)) :: st) h) : hp_G p l e R s m args below meth c S cs ad A D nL cells slots Q (pc) lv (.ref (ad k0) :: st) h := by
  obtain ⟨C, T, N, ref, f1, f2, f3, f4, f5⟩ := F
  obtain ⟨ds, s1, s2⟩ := hs
  exact hp_getm E k0 j t s1 s2 f1 f2 f3 f4 f5 hd k
theorem hp_pI (E : hp_Env p R s m args meth c cs D own cc nL ret) {k0 j idx ci : Nat} {u : Nat × Nat} {v : Int32} (F : hp_Fp own idx ci j .int) (hs : hp_sh S k0 ci j (0, u)) (h9 : k0 ≠ hp_V) (hJ : hp_J S ad A) (hd : decode cc pc = .ok (.putfield idx, 3)) (k : hp_G p l e R s m args below meth c S cs ad A D nL cells slots Q (pc + 3) lv (st) (hp_up h k0 j v)) : hp_G p l e R s m args below meth c S cs ad A D nL cells slots Q (pc) lv (.int v :: .ref (ad k0) :: st) h := by
  obtain ⟨C, T, N, ref, ty0, f1, f2, f3, f4, f5, f6, f7, f8, f9⟩ := F
  obtain ⟨ds, s1, s2⟩ := hs
  exact hp_puti E k0 j s1 s2 h9 hJ f1 f2 ty0 f6 f7 f3 f4 f8 f5 f9 hd k
theorem hp_pZ (E : hp_Env p R s m args meth c cs D own cc nL ret) {k0 j idx ci : Nat} {u : Nat × Nat} {v : Int32} (F : hp_Fp own idx ci j .boolean) (hs : hp_sh S k0 ci j (0, u)) (h9 : k0 ≠ hp_V) (hJ : hp_J S ad A) (hv : hp_bz v) (hd : decode cc pc = .ok (.putfield idx, 3)) (k : hp_G p l e R s m args below meth c S cs ad A D nL cells slots Q (pc + 3) lv (st) (hp_up h k0 j v)) : hp_G p l e R s m args below meth c S cs ad A D nL cells slots Q (pc) lv (.int v :: .ref (ad k0) :: st) h := by
  obtain ⟨C, T, N, ref, ty0, f1, f2, f3, f4, f5, f6, f7, f8, f9⟩ := F
  obtain ⟨ds, s1, s2⟩ := hs
  exact hp_putz E k0 j s1 s2 h9 hJ f1 f2 ty0 f6 f7 f3 f4 f8 f5 f9 hv hd k
theorem hp_pM (E : hp_Env p R s m args meth c cs D own cc nL ret) {k0 j idx ci x y t : Nat} (F : hp_Fp own idx ci j (.array .int)) (hs : hp_sh S k0 ci j (2, x, y)) (h9 : S.length ≤ hp_V) (hu : ∀ (i c : Nat) (es : List (Nat × Nat × Nat)) (b z : Nat), S[i]? = some (.inl (c, es)) → es[b]? = some (2, z, y) → i = k0 ∧ b = j) (hx : x ≤ t) (ht : t - x < 2 ^ 31) (hJ : hp_J S ad A) (hd : decode cc pc = .ok (.putfield idx, 3)) (k : hp_G p l e R s m args below meth c S cs ad A D nL cells slots Q (pc + 3) lv (st) (hp_up h hp_V y (nI (t - x)))) : hp_G p l e R s m args below meth c S cs ad A D nL cells slots Q (pc) lv (.ref (ad t) :: .ref (ad k0) :: st) h := by
  obtain ⟨C, T, N, ref, ty0, f1, f2, f3, f4, f5, f6, f7, f8, f9⟩ := F
  obtain ⟨ds, s1, s2⟩ := hs
  exact fun H locs ls hP hS hl => va_put (ty := .array .int) E.1 E.2.1 E.2.2.2.2.1 f2 ty0 f6 f7 E.2.2.2.1 E.2.2.2.2.2.1 hP (hJ.D h) hS k0 (hp_W_get s1) f1 j f3 (E.2.2.2.2.1 _ f5) (by rw [f4]; exact fun _ h9 => h9) f8 (by rw [f6 j f3, f9]) rfl rfl (by rw [hp_fs, hp_mi_len]; exact (List.getElem?_eq_some_iff.mp s2).1) hd (fun H1 locs1 hP1 hD1 hS1 => k H1 locs1 ls (by rw [← hp_W_mut s1 s2 h9 hx ht hu]; exact hP1) hS1 hl)
variable {y : MethodName} {C : String} {c1 : ByteArray} {n1 n idx ci N : Nat} {ret1 : Option FieldType} {rm : Room} {As rest : List Value} {dd : Nat × Nat × Nat} {T : u_T}
theorem hp_callVip {Qr : Int32 → Prop} (E : hp_Env p R s m args meth c cs D own cc nL ret) (k0 : Nat) (hs : hp_sh S k0 ci 0 dd) (hc : vwCl[ci]? = some (C, T, N)) (hM : hp_Mi l y c1 n1 ret1 rm (.ref (ad k0) :: As) S cs ad A D h (fun r h' => Qr r ∧ h' = h)) (F : hp_Fv C y c1 n1 ret1 n) (hm : Cond.methodLink own idx y ∈ hp_tbl) (hrm : rm.cells = 0 ∧ rm.slots = 0) (hR : rm.frames + 1 ≤ R.frames ∧ 8 + (n1 + 11) + rm.locals ≤ R.locals) (hR2 : cells ≤ R.cells ∧ slots ≤ R.slots) (hn : As.length = n) (hst : st = As.reverse ++ .ref (ad k0) :: rest) (hW : (rest.map fun v => v.category).sum ≤ 8) (hd : decode cc pc = .ok (.invokevirtual idx, 3)) (k : ∀ (r : Int32), Qr r → hp_G p l e R s m args below meth c S cs ad A D nL cells slots Q (pc + 3) lv (.int r :: rest) h) : hp_G p l e R s m args below meth c S cs ad A D nL cells slots Q (pc) lv (st) h := by
  obtain ⟨ds, s1, s2⟩ := hs
  exact hp_callVi E k0 s1 hc hM F hm hrm hR hR2 hn hst hW hd (fun r h' q => by rw [q.2]; exact k r q.1)
theorem hp_callVi' {Qr : Int32 → hp_H → Prop} (E : hp_Env p R s m args meth c cs D own cc nL ret) (k0 : Nat) (hs : hp_sh S k0 ci 0 dd) (hc : vwCl[ci]? = some (C, T, N)) (hM : hp_Mi l y c1 n1 ret1 rm (.ref (ad k0) :: As) S cs ad A D h Qr) (F : hp_Fv C y c1 n1 ret1 n) (hm : Cond.methodLink own idx y ∈ hp_tbl) (hrm : rm.cells = 0 ∧ rm.slots = 0) (hR : rm.frames + 1 ≤ R.frames ∧ 8 + (n1 + 11) + rm.locals ≤ R.locals) (hR2 : cells ≤ R.cells ∧ slots ≤ R.slots) (hn : As.length = n) (hst : st = As.reverse ++ .ref (ad k0) :: rest) (hW : (rest.map fun v => v.category).sum ≤ 8) (hd : decode cc pc = .ok (.invokevirtual idx, 3)) (k : ∀ (r : Int32) (h : hp_H), Qr r h → hp_G p l e R s m args below meth c S cs ad A D nL cells slots Q (pc + 3) lv (.int r :: rest) h) : hp_G p l e R s m args below meth c S cs ad A D nL cells slots Q (pc) lv (st) h := by
  obtain ⟨ds, s1, s2⟩ := hs
  exact hp_callVi E k0 s1 hc hM F hm hrm hR hR2 hn hst hW hd k
theorem hp_callVv' {Qr : hp_H → Prop} (E : hp_Env p R s m args meth c cs D own cc nL ret) (k0 : Nat) (hs : hp_sh S k0 ci 0 dd) (hc : vwCl[ci]? = some (C, T, N)) (hM : hp_Mv l y c1 n1 ret1 rm (.ref (ad k0) :: As) S cs ad A D h Qr) (F : hp_Fv C y c1 n1 ret1 n) (hm : Cond.methodLink own idx y ∈ hp_tbl) (hrm : rm.cells = 0 ∧ rm.slots = 0) (hR : rm.frames + 1 ≤ R.frames ∧ 8 + (n1 + 11) + rm.locals ≤ R.locals) (hR2 : cells ≤ R.cells ∧ slots ≤ R.slots) (hn : As.length = n) (hst : st = As.reverse ++ .ref (ad k0) :: rest) (hW : (rest.map fun v => v.category).sum ≤ 8) (hd : decode cc pc = .ok (.invokevirtual idx, 3)) (k : ∀ (h : hp_H), Qr h → hp_G p l e R s m args below meth c S cs ad A D nL cells slots Q (pc + 3) lv (rest) h) : hp_G p l e R s m args below meth c S cs ad A D nL cells slots Q (pc) lv (st) h := by
  obtain ⟨ds, s1, s2⟩ := hs
  exact hp_callVv E k0 s1 hc hM F hm hrm hR hR2 hn hst hW hd k
theorem hp_callVr' {Qr : hp_H → Prop} {r : Nat} (E : hp_Env p R s m args meth c cs D own cc nL ret) (k0 : Nat) (hs : hp_sh S k0 ci 0 dd) (hc : vwCl[ci]? = some (C, T, N)) (hM : hp_Mr l y c1 n1 ret1 rm (.ref (ad k0) :: As) S cs ad A D r h Qr) (F : hp_Fv C y c1 n1 ret1 n) (hm : Cond.methodLink own idx y ∈ hp_tbl) (hrm : rm.cells = 0 ∧ rm.slots = 0) (hR : rm.frames + 1 ≤ R.frames ∧ 8 + (n1 + 11) + rm.locals ≤ R.locals) (hR2 : cells ≤ R.cells ∧ slots ≤ R.slots) (hn : As.length = n) (hst : st = As.reverse ++ .ref (ad k0) :: rest) (hW : (rest.map fun v => v.category).sum ≤ 8) (hd : decode cc pc = .ok (.invokevirtual idx, 3)) (k : ∀ (h : hp_H), Qr h → hp_G p l e R s m args below meth c S cs ad A D nL cells slots Q (pc + 3) lv (.ref (ad r) :: rest) h) : hp_G p l e R s m args below meth c S cs ad A D nL cells slots Q (pc) lv (st) h := by
  obtain ⟨ds, s1, s2⟩ := hs
  exact hp_callVr E k0 s1 hc hM F hm hrm hR hR2 hn hst hW hd k
theorem hp_callSip {Qr : Int32 → Prop} (E : hp_Env p R s m args meth c cs D own cc nL ret) (hM : hp_Mi l y c1 n1 ret1 rm As S cs ad A D h (fun r h' => Qr r ∧ h' = h)) (F : hp_Fs y c1 n1 ret1 n) (hm : Cond.methodLink own idx y ∈ hp_tbl) (hrm : rm.cells = 0 ∧ rm.slots = 0) (hR : rm.frames + 1 ≤ R.frames ∧ 8 + (n1 + 11) + rm.locals ≤ R.locals) (hR2 : cells ≤ R.cells ∧ slots ≤ R.slots) (hn : As.length = n) (hst : st = As.reverse ++ rest) (hW : (rest.map fun v => v.category).sum ≤ 8) (hd : decode cc pc = .ok (.invokestatic idx, 3)) (k : ∀ (r : Int32), Qr r → hp_G p l e R s m args below meth c S cs ad A D nL cells slots Q (pc + 3) lv (.int r :: rest) h) : hp_G p l e R s m args below meth c S cs ad A D nL cells slots Q (pc) lv (st) h :=
  hp_callSi E hM F hm hrm hR hR2 hn hst hW hd (fun r h' q => by rw [q.2]; exact k r q.1)
theorem hp_callSvp {Qr : Prop} (E : hp_Env p R s m args meth c cs D own cc nL ret) (hM : hp_Mv l y c1 n1 ret1 rm As S cs ad A D h (fun h' => Qr ∧ h' = h)) (F : hp_Fs y c1 n1 ret1 n) (hm : Cond.methodLink own idx y ∈ hp_tbl) (hrm : rm.cells = 0 ∧ rm.slots = 0) (hR : rm.frames + 1 ≤ R.frames ∧ 8 + (n1 + 11) + rm.locals ≤ R.locals) (hR2 : cells ≤ R.cells ∧ slots ≤ R.slots) (hn : As.length = n) (hst : st = As.reverse ++ rest) (hW : (rest.map fun v => v.category).sum ≤ 8) (hd : decode cc pc = .ok (.invokestatic idx, 3)) (k : Qr → hp_G p l e R s m args below meth c S cs ad A D nL cells slots Q (pc + 3) lv (rest) h) : hp_G p l e R s m args below meth c S cs ad A D nL cells slots Q (pc) lv (st) h :=
  hp_callSv E hM F hm hrm hR hR2 hn hst hW hd (fun h' q => by rw [q.2]; exact k q.1)
theorem hp_callSNip {Qr : Int32 → Prop} {host : String} (E : hp_Env p R s m args meth c cs D own cc nL ret) (hM : hp_Mi l y c1 n1 ret1 rm As S cs ad A D h (fun r h' => Qr r ∧ h' = h)) (F : hp_Fs y c1 n1 ret1 n) (hm : (own, idx, y, host) ∈ hp_nst) (hrm : rm.cells = 0 ∧ rm.slots = 0) (hR : rm.frames + 1 ≤ R.frames ∧ 8 + (n1 + 11) + rm.locals ≤ R.locals) (hR2 : cells ≤ R.cells ∧ slots ≤ R.slots) (hn : As.length = n) (hst : st = As.reverse ++ rest) (hW : (rest.map fun v => v.category).sum ≤ 8) (hd : decode cc pc = .ok (.invokestatic idx, 3)) (k : ∀ (r : Int32), Qr r → hp_G p l e R s m args below meth c S cs ad A D nL cells slots Q (pc + 3) lv (.int r :: rest) h) : hp_G p l e R s m args below meth c S cs ad A D nL cells slots Q (pc) lv (st) h :=
  hp_callSNi E hM F hm hrm hR hR2 hn hst hW hd (fun r h' q => by rw [q.2]; exact k r q.1)
end
/-! ===== loops and joins, by how many numbers they carry ===== -/
def hp_jn0 (f : Prop → Prop) (g : Prop) : Prop := ∃ K : Prop, f K ∧ (K → g)
theorem hp_jn0_i {f : Prop → Prop} {g : Prop} (h : f g) : hp_jn0 f g := ⟨g, h, fun q => q⟩
def hp_lp0h (body : hp_H → (hp_H → Prop) → Prop)  (h : hp_H) : Prop := ∀ P : hp_H → Prop, (∀  (h : hp_H), (∃ B : hp_H → Prop, body h B ∧ ∀  (g : hp_H), B g → P g) → P h) → P h
theorem hp_lp0h_ind {body : hp_H → (hp_H → Prop) → Prop} (I : hp_H → Prop) (μ : hp_H → Nat) (hs : ∀  (h : hp_H), I h → body h (fun g => I g ∧ μ g < μ h))  {h : hp_H} (h0 : I h) : hp_lp0h body h := by
  intro P hP
  have key : ∀ n : Nat, ∀  (h : hp_H), μ h < n → I h → P h := by
    intro n
    induction n with
    | zero => intro h h1; omega
    | succ n ih => exact fun h h1 h2 => hP h ⟨_, hs h h2, fun g hb => ih g (by omega) hb.1⟩
  exact key (μ h + 1) h (Nat.lt_succ_self _) h0
def hp_jn0h (f : (hp_H → Prop) → Prop) (g : hp_H → Prop) : Prop := ∃ K : hp_H → Prop, f K ∧ ∀  (h : hp_H), K h → g h
theorem hp_jn0h_i {f : (hp_H → Prop) → Prop} {g : hp_H → Prop} (h : f g) : hp_jn0h f g := ⟨g, h, fun _ q => q⟩
def hp_lp1 (body : Int32 → (Int32 → Prop) → Prop) (a0 : Int32) : Prop := ∀ P : Int32 → Prop, (∀ (a0 : Int32), (∃ B : Int32 → Prop, body a0 B ∧ ∀ (b0 : Int32), B b0 → P b0) → P a0) → P a0
theorem hp_lp1_ind {body : Int32 → (Int32 → Prop) → Prop} (I : Int32 → Prop) (μ : Int32 → Nat) (hs : ∀ (a0 : Int32), I a0 → body a0 (fun b0 => I b0 ∧ μ b0 < μ a0)) {a0 : Int32} (h0 : I a0) : hp_lp1 body a0 := by
  intro P hP
  have key : ∀ n : Nat, ∀ (a0 : Int32), μ a0 < n → I a0 → P a0 := by
    intro n
    induction n with
    | zero => intro a0 h1; omega
    | succ n ih => exact fun a0 h1 h2 => hP a0 ⟨_, hs a0 h2, fun b0 hb => ih b0 (by omega) hb.1⟩
  exact key (μ a0 + 1) a0 (Nat.lt_succ_self _) h0
def hp_jn1 (f : (Int32 → Prop) → Prop) (g : Int32 → Prop) : Prop := ∃ K : Int32 → Prop, f K ∧ ∀ (a0 : Int32), K a0 → g a0
theorem hp_jn1_i {f : (Int32 → Prop) → Prop} {g : Int32 → Prop} (h : f g) : hp_jn1 f g := ⟨g, h, fun _ q => q⟩
def hp_lp1h (body : Int32 → hp_H → (Int32 → hp_H → Prop) → Prop) (a0 : Int32) (h : hp_H) : Prop := ∀ P : Int32 → hp_H → Prop, (∀ (a0 : Int32) (h : hp_H), (∃ B : Int32 → hp_H → Prop, body a0 h B ∧ ∀ (b0 : Int32) (g : hp_H), B b0 g → P b0 g) → P a0 h) → P a0 h
theorem hp_lp1h_ind {body : Int32 → hp_H → (Int32 → hp_H → Prop) → Prop} (I : Int32 → hp_H → Prop) (μ : Int32 → hp_H → Nat) (hs : ∀ (a0 : Int32) (h : hp_H), I a0 h → body a0 h (fun b0 g => I b0 g ∧ μ b0 g < μ a0 h)) {a0 : Int32} {h : hp_H} (h0 : I a0 h) : hp_lp1h body a0 h := by
  intro P hP
  have key : ∀ n : Nat, ∀ (a0 : Int32) (h : hp_H), μ a0 h < n → I a0 h → P a0 h := by
    intro n
    induction n with
    | zero => intro a0 h h1; omega
    | succ n ih => exact fun a0 h h1 h2 => hP a0 h ⟨_, hs a0 h h2, fun b0 g hb => ih b0 g (by omega) hb.1⟩
  exact key (μ a0 h + 1) a0 h (Nat.lt_succ_self _) h0
def hp_jn1h (f : (Int32 → hp_H → Prop) → Prop) (g : Int32 → hp_H → Prop) : Prop := ∃ K : Int32 → hp_H → Prop, f K ∧ ∀ (a0 : Int32) (h : hp_H), K a0 h → g a0 h
theorem hp_jn1h_i {f : (Int32 → hp_H → Prop) → Prop} {g : Int32 → hp_H → Prop} (h : f g) : hp_jn1h f g := ⟨g, h, fun _ _ q => q⟩
def hp_lp2 (body : Int32 → Int32 → (Int32 → Int32 → Prop) → Prop) (a0 : Int32) (a1 : Int32) : Prop := ∀ P : Int32 → Int32 → Prop, (∀ (a0 : Int32) (a1 : Int32), (∃ B : Int32 → Int32 → Prop, body a0 a1 B ∧ ∀ (b0 : Int32) (b1 : Int32), B b0 b1 → P b0 b1) → P a0 a1) → P a0 a1
theorem hp_lp2_ind {body : Int32 → Int32 → (Int32 → Int32 → Prop) → Prop} (I : Int32 → Int32 → Prop) (μ : Int32 → Int32 → Nat) (hs : ∀ (a0 : Int32) (a1 : Int32), I a0 a1 → body a0 a1 (fun b0 b1 => I b0 b1 ∧ μ b0 b1 < μ a0 a1)) {a0 : Int32} {a1 : Int32} (h0 : I a0 a1) : hp_lp2 body a0 a1 := by
  intro P hP
  have key : ∀ n : Nat, ∀ (a0 : Int32) (a1 : Int32), μ a0 a1 < n → I a0 a1 → P a0 a1 := by
    intro n
    induction n with
    | zero => intro a0 a1 h1; omega
    | succ n ih => exact fun a0 a1 h1 h2 => hP a0 a1 ⟨_, hs a0 a1 h2, fun b0 b1 hb => ih b0 b1 (by omega) hb.1⟩
  exact key (μ a0 a1 + 1) a0 a1 (Nat.lt_succ_self _) h0
def hp_jn2 (f : (Int32 → Int32 → Prop) → Prop) (g : Int32 → Int32 → Prop) : Prop := ∃ K : Int32 → Int32 → Prop, f K ∧ ∀ (a0 : Int32) (a1 : Int32), K a0 a1 → g a0 a1
theorem hp_jn2_i {f : (Int32 → Int32 → Prop) → Prop} {g : Int32 → Int32 → Prop} (h : f g) : hp_jn2 f g := ⟨g, h, fun _ _ q => q⟩
def hp_lp2h (body : Int32 → Int32 → hp_H → (Int32 → Int32 → hp_H → Prop) → Prop) (a0 : Int32) (a1 : Int32) (h : hp_H) : Prop := ∀ P : Int32 → Int32 → hp_H → Prop, (∀ (a0 : Int32) (a1 : Int32) (h : hp_H), (∃ B : Int32 → Int32 → hp_H → Prop, body a0 a1 h B ∧ ∀ (b0 : Int32) (b1 : Int32) (g : hp_H), B b0 b1 g → P b0 b1 g) → P a0 a1 h) → P a0 a1 h
theorem hp_lp2h_ind {body : Int32 → Int32 → hp_H → (Int32 → Int32 → hp_H → Prop) → Prop} (I : Int32 → Int32 → hp_H → Prop) (μ : Int32 → Int32 → hp_H → Nat) (hs : ∀ (a0 : Int32) (a1 : Int32) (h : hp_H), I a0 a1 h → body a0 a1 h (fun b0 b1 g => I b0 b1 g ∧ μ b0 b1 g < μ a0 a1 h)) {a0 : Int32} {a1 : Int32} {h : hp_H} (h0 : I a0 a1 h) : hp_lp2h body a0 a1 h := by
  intro P hP
  have key : ∀ n : Nat, ∀ (a0 : Int32) (a1 : Int32) (h : hp_H), μ a0 a1 h < n → I a0 a1 h → P a0 a1 h := by
    intro n
    induction n with
    | zero => intro a0 a1 h h1; omega
    | succ n ih => exact fun a0 a1 h h1 h2 => hP a0 a1 h ⟨_, hs a0 a1 h h2, fun b0 b1 g hb => ih b0 b1 g (by omega) hb.1⟩
  exact key (μ a0 a1 h + 1) a0 a1 h (Nat.lt_succ_self _) h0
def hp_jn2h (f : (Int32 → Int32 → hp_H → Prop) → Prop) (g : Int32 → Int32 → hp_H → Prop) : Prop := ∃ K : Int32 → Int32 → hp_H → Prop, f K ∧ ∀ (a0 : Int32) (a1 : Int32) (h : hp_H), K a0 a1 h → g a0 a1 h
theorem hp_jn2h_i {f : (Int32 → Int32 → hp_H → Prop) → Prop} {g : Int32 → Int32 → hp_H → Prop} (h : f g) : hp_jn2h f g := ⟨g, h, fun _ _ _ q => q⟩
def hp_lp3 (body : Int32 → Int32 → Int32 → (Int32 → Int32 → Int32 → Prop) → Prop) (a0 : Int32) (a1 : Int32) (a2 : Int32) : Prop := ∀ P : Int32 → Int32 → Int32 → Prop, (∀ (a0 : Int32) (a1 : Int32) (a2 : Int32), (∃ B : Int32 → Int32 → Int32 → Prop, body a0 a1 a2 B ∧ ∀ (b0 : Int32) (b1 : Int32) (b2 : Int32), B b0 b1 b2 → P b0 b1 b2) → P a0 a1 a2) → P a0 a1 a2
theorem hp_lp3_ind {body : Int32 → Int32 → Int32 → (Int32 → Int32 → Int32 → Prop) → Prop} (I : Int32 → Int32 → Int32 → Prop) (μ : Int32 → Int32 → Int32 → Nat) (hs : ∀ (a0 : Int32) (a1 : Int32) (a2 : Int32), I a0 a1 a2 → body a0 a1 a2 (fun b0 b1 b2 => I b0 b1 b2 ∧ μ b0 b1 b2 < μ a0 a1 a2)) {a0 : Int32} {a1 : Int32} {a2 : Int32} (h0 : I a0 a1 a2) : hp_lp3 body a0 a1 a2 := by
  intro P hP
  have key : ∀ n : Nat, ∀ (a0 : Int32) (a1 : Int32) (a2 : Int32), μ a0 a1 a2 < n → I a0 a1 a2 → P a0 a1 a2 := by
    intro n
    induction n with
    | zero => intro a0 a1 a2 h1; omega
    | succ n ih => exact fun a0 a1 a2 h1 h2 => hP a0 a1 a2 ⟨_, hs a0 a1 a2 h2, fun b0 b1 b2 hb => ih b0 b1 b2 (by omega) hb.1⟩
  exact key (μ a0 a1 a2 + 1) a0 a1 a2 (Nat.lt_succ_self _) h0
def hp_jn3 (f : (Int32 → Int32 → Int32 → Prop) → Prop) (g : Int32 → Int32 → Int32 → Prop) : Prop := ∃ K : Int32 → Int32 → Int32 → Prop, f K ∧ ∀ (a0 : Int32) (a1 : Int32) (a2 : Int32), K a0 a1 a2 → g a0 a1 a2
theorem hp_jn3_i {f : (Int32 → Int32 → Int32 → Prop) → Prop} {g : Int32 → Int32 → Int32 → Prop} (h : f g) : hp_jn3 f g := ⟨g, h, fun _ _ _ q => q⟩
def hp_lp3h (body : Int32 → Int32 → Int32 → hp_H → (Int32 → Int32 → Int32 → hp_H → Prop) → Prop) (a0 : Int32) (a1 : Int32) (a2 : Int32) (h : hp_H) : Prop := ∀ P : Int32 → Int32 → Int32 → hp_H → Prop, (∀ (a0 : Int32) (a1 : Int32) (a2 : Int32) (h : hp_H), (∃ B : Int32 → Int32 → Int32 → hp_H → Prop, body a0 a1 a2 h B ∧ ∀ (b0 : Int32) (b1 : Int32) (b2 : Int32) (g : hp_H), B b0 b1 b2 g → P b0 b1 b2 g) → P a0 a1 a2 h) → P a0 a1 a2 h
theorem hp_lp3h_ind {body : Int32 → Int32 → Int32 → hp_H → (Int32 → Int32 → Int32 → hp_H → Prop) → Prop} (I : Int32 → Int32 → Int32 → hp_H → Prop) (μ : Int32 → Int32 → Int32 → hp_H → Nat) (hs : ∀ (a0 : Int32) (a1 : Int32) (a2 : Int32) (h : hp_H), I a0 a1 a2 h → body a0 a1 a2 h (fun b0 b1 b2 g => I b0 b1 b2 g ∧ μ b0 b1 b2 g < μ a0 a1 a2 h)) {a0 : Int32} {a1 : Int32} {a2 : Int32} {h : hp_H} (h0 : I a0 a1 a2 h) : hp_lp3h body a0 a1 a2 h := by
  intro P hP
  have key : ∀ n : Nat, ∀ (a0 : Int32) (a1 : Int32) (a2 : Int32) (h : hp_H), μ a0 a1 a2 h < n → I a0 a1 a2 h → P a0 a1 a2 h := by
    intro n
    induction n with
    | zero => intro a0 a1 a2 h h1; omega
    | succ n ih => exact fun a0 a1 a2 h h1 h2 => hP a0 a1 a2 h ⟨_, hs a0 a1 a2 h h2, fun b0 b1 b2 g hb => ih b0 b1 b2 g (by omega) hb.1⟩
  exact key (μ a0 a1 a2 h + 1) a0 a1 a2 h (Nat.lt_succ_self _) h0
def hp_jn3h (f : (Int32 → Int32 → Int32 → hp_H → Prop) → Prop) (g : Int32 → Int32 → Int32 → hp_H → Prop) : Prop := ∃ K : Int32 → Int32 → Int32 → hp_H → Prop, f K ∧ ∀ (a0 : Int32) (a1 : Int32) (a2 : Int32) (h : hp_H), K a0 a1 a2 h → g a0 a1 a2 h
theorem hp_jn3h_i {f : (Int32 → Int32 → Int32 → hp_H → Prop) → Prop} {g : Int32 → Int32 → Int32 → hp_H → Prop} (h : f g) : hp_jn3h f g := ⟨g, h, fun _ _ _ _ q => q⟩
def hp_lp4 (body : Int32 → Int32 → Int32 → Int32 → (Int32 → Int32 → Int32 → Int32 → Prop) → Prop) (a0 : Int32) (a1 : Int32) (a2 : Int32) (a3 : Int32) : Prop := ∀ P : Int32 → Int32 → Int32 → Int32 → Prop, (∀ (a0 : Int32) (a1 : Int32) (a2 : Int32) (a3 : Int32), (∃ B : Int32 → Int32 → Int32 → Int32 → Prop, body a0 a1 a2 a3 B ∧ ∀ (b0 : Int32) (b1 : Int32) (b2 : Int32) (b3 : Int32), B b0 b1 b2 b3 → P b0 b1 b2 b3) → P a0 a1 a2 a3) → P a0 a1 a2 a3
theorem hp_lp4_ind {body : Int32 → Int32 → Int32 → Int32 → (Int32 → Int32 → Int32 → Int32 → Prop) → Prop} (I : Int32 → Int32 → Int32 → Int32 → Prop) (μ : Int32 → Int32 → Int32 → Int32 → Nat) (hs : ∀ (a0 : Int32) (a1 : Int32) (a2 : Int32) (a3 : Int32), I a0 a1 a2 a3 → body a0 a1 a2 a3 (fun b0 b1 b2 b3 => I b0 b1 b2 b3 ∧ μ b0 b1 b2 b3 < μ a0 a1 a2 a3)) {a0 : Int32} {a1 : Int32} {a2 : Int32} {a3 : Int32} (h0 : I a0 a1 a2 a3) : hp_lp4 body a0 a1 a2 a3 := by
  intro P hP
  have key : ∀ n : Nat, ∀ (a0 : Int32) (a1 : Int32) (a2 : Int32) (a3 : Int32), μ a0 a1 a2 a3 < n → I a0 a1 a2 a3 → P a0 a1 a2 a3 := by
    intro n
    induction n with
    | zero => intro a0 a1 a2 a3 h1; omega
    | succ n ih => exact fun a0 a1 a2 a3 h1 h2 => hP a0 a1 a2 a3 ⟨_, hs a0 a1 a2 a3 h2, fun b0 b1 b2 b3 hb => ih b0 b1 b2 b3 (by omega) hb.1⟩
  exact key (μ a0 a1 a2 a3 + 1) a0 a1 a2 a3 (Nat.lt_succ_self _) h0
def hp_jn4 (f : (Int32 → Int32 → Int32 → Int32 → Prop) → Prop) (g : Int32 → Int32 → Int32 → Int32 → Prop) : Prop := ∃ K : Int32 → Int32 → Int32 → Int32 → Prop, f K ∧ ∀ (a0 : Int32) (a1 : Int32) (a2 : Int32) (a3 : Int32), K a0 a1 a2 a3 → g a0 a1 a2 a3
theorem hp_jn4_i {f : (Int32 → Int32 → Int32 → Int32 → Prop) → Prop} {g : Int32 → Int32 → Int32 → Int32 → Prop} (h : f g) : hp_jn4 f g := ⟨g, h, fun _ _ _ _ q => q⟩
def hp_lp4h (body : Int32 → Int32 → Int32 → Int32 → hp_H → (Int32 → Int32 → Int32 → Int32 → hp_H → Prop) → Prop) (a0 : Int32) (a1 : Int32) (a2 : Int32) (a3 : Int32) (h : hp_H) : Prop := ∀ P : Int32 → Int32 → Int32 → Int32 → hp_H → Prop, (∀ (a0 : Int32) (a1 : Int32) (a2 : Int32) (a3 : Int32) (h : hp_H), (∃ B : Int32 → Int32 → Int32 → Int32 → hp_H → Prop, body a0 a1 a2 a3 h B ∧ ∀ (b0 : Int32) (b1 : Int32) (b2 : Int32) (b3 : Int32) (g : hp_H), B b0 b1 b2 b3 g → P b0 b1 b2 b3 g) → P a0 a1 a2 a3 h) → P a0 a1 a2 a3 h
theorem hp_lp4h_ind {body : Int32 → Int32 → Int32 → Int32 → hp_H → (Int32 → Int32 → Int32 → Int32 → hp_H → Prop) → Prop} (I : Int32 → Int32 → Int32 → Int32 → hp_H → Prop) (μ : Int32 → Int32 → Int32 → Int32 → hp_H → Nat) (hs : ∀ (a0 : Int32) (a1 : Int32) (a2 : Int32) (a3 : Int32) (h : hp_H), I a0 a1 a2 a3 h → body a0 a1 a2 a3 h (fun b0 b1 b2 b3 g => I b0 b1 b2 b3 g ∧ μ b0 b1 b2 b3 g < μ a0 a1 a2 a3 h)) {a0 : Int32} {a1 : Int32} {a2 : Int32} {a3 : Int32} {h : hp_H} (h0 : I a0 a1 a2 a3 h) : hp_lp4h body a0 a1 a2 a3 h := by
  intro P hP
  have key : ∀ n : Nat, ∀ (a0 : Int32) (a1 : Int32) (a2 : Int32) (a3 : Int32) (h : hp_H), μ a0 a1 a2 a3 h < n → I a0 a1 a2 a3 h → P a0 a1 a2 a3 h := by
    intro n
    induction n with
    | zero => intro a0 a1 a2 a3 h h1; omega
    | succ n ih => exact fun a0 a1 a2 a3 h h1 h2 => hP a0 a1 a2 a3 h ⟨_, hs a0 a1 a2 a3 h h2, fun b0 b1 b2 b3 g hb => ih b0 b1 b2 b3 g (by omega) hb.1⟩
  exact key (μ a0 a1 a2 a3 h + 1) a0 a1 a2 a3 h (Nat.lt_succ_self _) h0
def hp_jn4h (f : (Int32 → Int32 → Int32 → Int32 → hp_H → Prop) → Prop) (g : Int32 → Int32 → Int32 → Int32 → hp_H → Prop) : Prop := ∃ K : Int32 → Int32 → Int32 → Int32 → hp_H → Prop, f K ∧ ∀ (a0 : Int32) (a1 : Int32) (a2 : Int32) (a3 : Int32) (h : hp_H), K a0 a1 a2 a3 h → g a0 a1 a2 a3 h
theorem hp_jn4h_i {f : (Int32 → Int32 → Int32 → Int32 → hp_H → Prop) → Prop} {g : Int32 → Int32 → Int32 → Int32 → hp_H → Prop} (h : f g) : hp_jn4h f g := ⟨g, h, fun _ _ _ _ _ q => q⟩
def hp_lp5 (body : Int32 → Int32 → Int32 → Int32 → Int32 → (Int32 → Int32 → Int32 → Int32 → Int32 → Prop) → Prop) (a0 : Int32) (a1 : Int32) (a2 : Int32) (a3 : Int32) (a4 : Int32) : Prop := ∀ P : Int32 → Int32 → Int32 → Int32 → Int32 → Prop, (∀ (a0 : Int32) (a1 : Int32) (a2 : Int32) (a3 : Int32) (a4 : Int32), (∃ B : Int32 → Int32 → Int32 → Int32 → Int32 → Prop, body a0 a1 a2 a3 a4 B ∧ ∀ (b0 : Int32) (b1 : Int32) (b2 : Int32) (b3 : Int32) (b4 : Int32), B b0 b1 b2 b3 b4 → P b0 b1 b2 b3 b4) → P a0 a1 a2 a3 a4) → P a0 a1 a2 a3 a4
theorem hp_lp5_ind {body : Int32 → Int32 → Int32 → Int32 → Int32 → (Int32 → Int32 → Int32 → Int32 → Int32 → Prop) → Prop} (I : Int32 → Int32 → Int32 → Int32 → Int32 → Prop) (μ : Int32 → Int32 → Int32 → Int32 → Int32 → Nat) (hs : ∀ (a0 : Int32) (a1 : Int32) (a2 : Int32) (a3 : Int32) (a4 : Int32), I a0 a1 a2 a3 a4 → body a0 a1 a2 a3 a4 (fun b0 b1 b2 b3 b4 => I b0 b1 b2 b3 b4 ∧ μ b0 b1 b2 b3 b4 < μ a0 a1 a2 a3 a4)) {a0 : Int32} {a1 : Int32} {a2 : Int32} {a3 : Int32} {a4 : Int32} (h0 : I a0 a1 a2 a3 a4) : hp_lp5 body a0 a1 a2 a3 a4 := by
  intro P hP
  have key : ∀ n : Nat, ∀ (a0 : Int32) (a1 : Int32) (a2 : Int32) (a3 : Int32) (a4 : Int32), μ a0 a1 a2 a3 a4 < n → I a0 a1 a2 a3 a4 → P a0 a1 a2 a3 a4 := by
    intro n
    induction n with
    | zero => intro a0 a1 a2 a3 a4 h1; omega
    | succ n ih => exact fun a0 a1 a2 a3 a4 h1 h2 => hP a0 a1 a2 a3 a4 ⟨_, hs a0 a1 a2 a3 a4 h2, fun b0 b1 b2 b3 b4 hb => ih b0 b1 b2 b3 b4 (by omega) hb.1⟩
  exact key (μ a0 a1 a2 a3 a4 + 1) a0 a1 a2 a3 a4 (Nat.lt_succ_self _) h0
def hp_jn5 (f : (Int32 → Int32 → Int32 → Int32 → Int32 → Prop) → Prop) (g : Int32 → Int32 → Int32 → Int32 → Int32 → Prop) : Prop := ∃ K : Int32 → Int32 → Int32 → Int32 → Int32 → Prop, f K ∧ ∀ (a0 : Int32) (a1 : Int32) (a2 : Int32) (a3 : Int32) (a4 : Int32), K a0 a1 a2 a3 a4 → g a0 a1 a2 a3 a4
theorem hp_jn5_i {f : (Int32 → Int32 → Int32 → Int32 → Int32 → Prop) → Prop} {g : Int32 → Int32 → Int32 → Int32 → Int32 → Prop} (h : f g) : hp_jn5 f g := ⟨g, h, fun _ _ _ _ _ q => q⟩
def hp_lp5h (body : Int32 → Int32 → Int32 → Int32 → Int32 → hp_H → (Int32 → Int32 → Int32 → Int32 → Int32 → hp_H → Prop) → Prop) (a0 : Int32) (a1 : Int32) (a2 : Int32) (a3 : Int32) (a4 : Int32) (h : hp_H) : Prop := ∀ P : Int32 → Int32 → Int32 → Int32 → Int32 → hp_H → Prop, (∀ (a0 : Int32) (a1 : Int32) (a2 : Int32) (a3 : Int32) (a4 : Int32) (h : hp_H), (∃ B : Int32 → Int32 → Int32 → Int32 → Int32 → hp_H → Prop, body a0 a1 a2 a3 a4 h B ∧ ∀ (b0 : Int32) (b1 : Int32) (b2 : Int32) (b3 : Int32) (b4 : Int32) (g : hp_H), B b0 b1 b2 b3 b4 g → P b0 b1 b2 b3 b4 g) → P a0 a1 a2 a3 a4 h) → P a0 a1 a2 a3 a4 h
theorem hp_lp5h_ind {body : Int32 → Int32 → Int32 → Int32 → Int32 → hp_H → (Int32 → Int32 → Int32 → Int32 → Int32 → hp_H → Prop) → Prop} (I : Int32 → Int32 → Int32 → Int32 → Int32 → hp_H → Prop) (μ : Int32 → Int32 → Int32 → Int32 → Int32 → hp_H → Nat) (hs : ∀ (a0 : Int32) (a1 : Int32) (a2 : Int32) (a3 : Int32) (a4 : Int32) (h : hp_H), I a0 a1 a2 a3 a4 h → body a0 a1 a2 a3 a4 h (fun b0 b1 b2 b3 b4 g => I b0 b1 b2 b3 b4 g ∧ μ b0 b1 b2 b3 b4 g < μ a0 a1 a2 a3 a4 h)) {a0 : Int32} {a1 : Int32} {a2 : Int32} {a3 : Int32} {a4 : Int32} {h : hp_H} (h0 : I a0 a1 a2 a3 a4 h) : hp_lp5h body a0 a1 a2 a3 a4 h := by
  intro P hP
  have key : ∀ n : Nat, ∀ (a0 : Int32) (a1 : Int32) (a2 : Int32) (a3 : Int32) (a4 : Int32) (h : hp_H), μ a0 a1 a2 a3 a4 h < n → I a0 a1 a2 a3 a4 h → P a0 a1 a2 a3 a4 h := by
    intro n
    induction n with
    | zero => intro a0 a1 a2 a3 a4 h h1; omega
    | succ n ih => exact fun a0 a1 a2 a3 a4 h h1 h2 => hP a0 a1 a2 a3 a4 h ⟨_, hs a0 a1 a2 a3 a4 h h2, fun b0 b1 b2 b3 b4 g hb => ih b0 b1 b2 b3 b4 g (by omega) hb.1⟩
  exact key (μ a0 a1 a2 a3 a4 h + 1) a0 a1 a2 a3 a4 h (Nat.lt_succ_self _) h0
def hp_jn5h (f : (Int32 → Int32 → Int32 → Int32 → Int32 → hp_H → Prop) → Prop) (g : Int32 → Int32 → Int32 → Int32 → Int32 → hp_H → Prop) : Prop := ∃ K : Int32 → Int32 → Int32 → Int32 → Int32 → hp_H → Prop, f K ∧ ∀ (a0 : Int32) (a1 : Int32) (a2 : Int32) (a3 : Int32) (a4 : Int32) (h : hp_H), K a0 a1 a2 a3 a4 h → g a0 a1 a2 a3 a4 h
theorem hp_jn5h_i {f : (Int32 → Int32 → Int32 → Int32 → Int32 → hp_H → Prop) → Prop} {g : Int32 → Int32 → Int32 → Int32 → Int32 → hp_H → Prop} (h : f g) : hp_jn5h f g := ⟨g, h, fun _ _ _ _ _ _ q => q⟩
def hp_lp6 (body : Int32 → Int32 → Int32 → Int32 → Int32 → Int32 → (Int32 → Int32 → Int32 → Int32 → Int32 → Int32 → Prop) → Prop) (a0 : Int32) (a1 : Int32) (a2 : Int32) (a3 : Int32) (a4 : Int32) (a5 : Int32) : Prop := ∀ P : Int32 → Int32 → Int32 → Int32 → Int32 → Int32 → Prop, (∀ (a0 : Int32) (a1 : Int32) (a2 : Int32) (a3 : Int32) (a4 : Int32) (a5 : Int32), (∃ B : Int32 → Int32 → Int32 → Int32 → Int32 → Int32 → Prop, body a0 a1 a2 a3 a4 a5 B ∧ ∀ (b0 : Int32) (b1 : Int32) (b2 : Int32) (b3 : Int32) (b4 : Int32) (b5 : Int32), B b0 b1 b2 b3 b4 b5 → P b0 b1 b2 b3 b4 b5) → P a0 a1 a2 a3 a4 a5) → P a0 a1 a2 a3 a4 a5
theorem hp_lp6_ind {body : Int32 → Int32 → Int32 → Int32 → Int32 → Int32 → (Int32 → Int32 → Int32 → Int32 → Int32 → Int32 → Prop) → Prop} (I : Int32 → Int32 → Int32 → Int32 → Int32 → Int32 → Prop) (μ : Int32 → Int32 → Int32 → Int32 → Int32 → Int32 → Nat) (hs : ∀ (a0 : Int32) (a1 : Int32) (a2 : Int32) (a3 : Int32) (a4 : Int32) (a5 : Int32), I a0 a1 a2 a3 a4 a5 → body a0 a1 a2 a3 a4 a5 (fun b0 b1 b2 b3 b4 b5 => I b0 b1 b2 b3 b4 b5 ∧ μ b0 b1 b2 b3 b4 b5 < μ a0 a1 a2 a3 a4 a5)) {a0 : Int32} {a1 : Int32} {a2 : Int32} {a3 : Int32} {a4 : Int32} {a5 : Int32} (h0 : I a0 a1 a2 a3 a4 a5) : hp_lp6 body a0 a1 a2 a3 a4 a5 := by
  intro P hP
  have key : ∀ n : Nat, ∀ (a0 : Int32) (a1 : Int32) (a2 : Int32) (a3 : Int32) (a4 : Int32) (a5 : Int32), μ a0 a1 a2 a3 a4 a5 < n → I a0 a1 a2 a3 a4 a5 → P a0 a1 a2 a3 a4 a5 := by
    intro n
    induction n with
    | zero => intro a0 a1 a2 a3 a4 a5 h1; omega
    | succ n ih => exact fun a0 a1 a2 a3 a4 a5 h1 h2 => hP a0 a1 a2 a3 a4 a5 ⟨_, hs a0 a1 a2 a3 a4 a5 h2, fun b0 b1 b2 b3 b4 b5 hb => ih b0 b1 b2 b3 b4 b5 (by omega) hb.1⟩
  exact key (μ a0 a1 a2 a3 a4 a5 + 1) a0 a1 a2 a3 a4 a5 (Nat.lt_succ_self _) h0
def hp_jn6 (f : (Int32 → Int32 → Int32 → Int32 → Int32 → Int32 → Prop) → Prop) (g : Int32 → Int32 → Int32 → Int32 → Int32 → Int32 → Prop) : Prop := ∃ K : Int32 → Int32 → Int32 → Int32 → Int32 → Int32 → Prop, f K ∧ ∀ (a0 : Int32) (a1 : Int32) (a2 : Int32) (a3 : Int32) (a4 : Int32) (a5 : Int32), K a0 a1 a2 a3 a4 a5 → g a0 a1 a2 a3 a4 a5
theorem hp_jn6_i {f : (Int32 → Int32 → Int32 → Int32 → Int32 → Int32 → Prop) → Prop} {g : Int32 → Int32 → Int32 → Int32 → Int32 → Int32 → Prop} (h : f g) : hp_jn6 f g := ⟨g, h, fun _ _ _ _ _ _ q => q⟩
def hp_lp6h (body : Int32 → Int32 → Int32 → Int32 → Int32 → Int32 → hp_H → (Int32 → Int32 → Int32 → Int32 → Int32 → Int32 → hp_H → Prop) → Prop) (a0 : Int32) (a1 : Int32) (a2 : Int32) (a3 : Int32) (a4 : Int32) (a5 : Int32) (h : hp_H) : Prop := ∀ P : Int32 → Int32 → Int32 → Int32 → Int32 → Int32 → hp_H → Prop, (∀ (a0 : Int32) (a1 : Int32) (a2 : Int32) (a3 : Int32) (a4 : Int32) (a5 : Int32) (h : hp_H), (∃ B : Int32 → Int32 → Int32 → Int32 → Int32 → Int32 → hp_H → Prop, body a0 a1 a2 a3 a4 a5 h B ∧ ∀ (b0 : Int32) (b1 : Int32) (b2 : Int32) (b3 : Int32) (b4 : Int32) (b5 : Int32) (g : hp_H), B b0 b1 b2 b3 b4 b5 g → P b0 b1 b2 b3 b4 b5 g) → P a0 a1 a2 a3 a4 a5 h) → P a0 a1 a2 a3 a4 a5 h
theorem hp_lp6h_ind {body : Int32 → Int32 → Int32 → Int32 → Int32 → Int32 → hp_H → (Int32 → Int32 → Int32 → Int32 → Int32 → Int32 → hp_H → Prop) → Prop} (I : Int32 → Int32 → Int32 → Int32 → Int32 → Int32 → hp_H → Prop) (μ : Int32 → Int32 → Int32 → Int32 → Int32 → Int32 → hp_H → Nat) (hs : ∀ (a0 : Int32) (a1 : Int32) (a2 : Int32) (a3 : Int32) (a4 : Int32) (a5 : Int32) (h : hp_H), I a0 a1 a2 a3 a4 a5 h → body a0 a1 a2 a3 a4 a5 h (fun b0 b1 b2 b3 b4 b5 g => I b0 b1 b2 b3 b4 b5 g ∧ μ b0 b1 b2 b3 b4 b5 g < μ a0 a1 a2 a3 a4 a5 h)) {a0 : Int32} {a1 : Int32} {a2 : Int32} {a3 : Int32} {a4 : Int32} {a5 : Int32} {h : hp_H} (h0 : I a0 a1 a2 a3 a4 a5 h) : hp_lp6h body a0 a1 a2 a3 a4 a5 h := by
  intro P hP
  have key : ∀ n : Nat, ∀ (a0 : Int32) (a1 : Int32) (a2 : Int32) (a3 : Int32) (a4 : Int32) (a5 : Int32) (h : hp_H), μ a0 a1 a2 a3 a4 a5 h < n → I a0 a1 a2 a3 a4 a5 h → P a0 a1 a2 a3 a4 a5 h := by
    intro n
    induction n with
    | zero => intro a0 a1 a2 a3 a4 a5 h h1; omega
    | succ n ih => exact fun a0 a1 a2 a3 a4 a5 h h1 h2 => hP a0 a1 a2 a3 a4 a5 h ⟨_, hs a0 a1 a2 a3 a4 a5 h h2, fun b0 b1 b2 b3 b4 b5 g hb => ih b0 b1 b2 b3 b4 b5 g (by omega) hb.1⟩
  exact key (μ a0 a1 a2 a3 a4 a5 h + 1) a0 a1 a2 a3 a4 a5 h (Nat.lt_succ_self _) h0
def hp_jn6h (f : (Int32 → Int32 → Int32 → Int32 → Int32 → Int32 → hp_H → Prop) → Prop) (g : Int32 → Int32 → Int32 → Int32 → Int32 → Int32 → hp_H → Prop) : Prop := ∃ K : Int32 → Int32 → Int32 → Int32 → Int32 → Int32 → hp_H → Prop, f K ∧ ∀ (a0 : Int32) (a1 : Int32) (a2 : Int32) (a3 : Int32) (a4 : Int32) (a5 : Int32) (h : hp_H), K a0 a1 a2 a3 a4 a5 h → g a0 a1 a2 a3 a4 a5 h
theorem hp_jn6h_i {f : (Int32 → Int32 → Int32 → Int32 → Int32 → Int32 → hp_H → Prop) → Prop} {g : Int32 → Int32 → Int32 → Int32 → Int32 → Int32 → hp_H → Prop} (h : f g) : hp_jn6h f g := ⟨g, h, fun _ _ _ _ _ _ _ q => q⟩
def hp_lp7 (body : Int32 → Int32 → Int32 → Int32 → Int32 → Int32 → Int32 → (Int32 → Int32 → Int32 → Int32 → Int32 → Int32 → Int32 → Prop) → Prop) (a0 : Int32) (a1 : Int32) (a2 : Int32) (a3 : Int32) (a4 : Int32) (a5 : Int32) (a6 : Int32) : Prop := ∀ P : Int32 → Int32 → Int32 → Int32 → Int32 → Int32 → Int32 → Prop, (∀ (a0 : Int32) (a1 : Int32) (a2 : Int32) (a3 : Int32) (a4 : Int32) (a5 : Int32) (a6 : Int32), (∃ B : Int32 → Int32 → Int32 → Int32 → Int32 → Int32 → Int32 → Prop, body a0 a1 a2 a3 a4 a5 a6 B ∧ ∀ (b0 : Int32) (b1 : Int32) (b2 : Int32) (b3 : Int32) (b4 : Int32) (b5 : Int32) (b6 : Int32), B b0 b1 b2 b3 b4 b5 b6 → P b0 b1 b2 b3 b4 b5 b6) → P a0 a1 a2 a3 a4 a5 a6) → P a0 a1 a2 a3 a4 a5 a6
theorem hp_lp7_ind {body : Int32 → Int32 → Int32 → Int32 → Int32 → Int32 → Int32 → (Int32 → Int32 → Int32 → Int32 → Int32 → Int32 → Int32 → Prop) → Prop} (I : Int32 → Int32 → Int32 → Int32 → Int32 → Int32 → Int32 → Prop) (μ : Int32 → Int32 → Int32 → Int32 → Int32 → Int32 → Int32 → Nat) (hs : ∀ (a0 : Int32) (a1 : Int32) (a2 : Int32) (a3 : Int32) (a4 : Int32) (a5 : Int32) (a6 : Int32), I a0 a1 a2 a3 a4 a5 a6 → body a0 a1 a2 a3 a4 a5 a6 (fun b0 b1 b2 b3 b4 b5 b6 => I b0 b1 b2 b3 b4 b5 b6 ∧ μ b0 b1 b2 b3 b4 b5 b6 < μ a0 a1 a2 a3 a4 a5 a6)) {a0 : Int32} {a1 : Int32} {a2 : Int32} {a3 : Int32} {a4 : Int32} {a5 : Int32} {a6 : Int32} (h0 : I a0 a1 a2 a3 a4 a5 a6) : hp_lp7 body a0 a1 a2 a3 a4 a5 a6 := by
  intro P hP
  have key : ∀ n : Nat, ∀ (a0 : Int32) (a1 : Int32) (a2 : Int32) (a3 : Int32) (a4 : Int32) (a5 : Int32) (a6 : Int32), μ a0 a1 a2 a3 a4 a5 a6 < n → I a0 a1 a2 a3 a4 a5 a6 → P a0 a1 a2 a3 a4 a5 a6 := by
    intro n
    induction n with
    | zero => intro a0 a1 a2 a3 a4 a5 a6 h1; omega
    | succ n ih => exact fun a0 a1 a2 a3 a4 a5 a6 h1 h2 => hP a0 a1 a2 a3 a4 a5 a6 ⟨_, hs a0 a1 a2 a3 a4 a5 a6 h2, fun b0 b1 b2 b3 b4 b5 b6 hb => ih b0 b1 b2 b3 b4 b5 b6 (by omega) hb.1⟩
  exact key (μ a0 a1 a2 a3 a4 a5 a6 + 1) a0 a1 a2 a3 a4 a5 a6 (Nat.lt_succ_self _) h0
def hp_jn7 (f : (Int32 → Int32 → Int32 → Int32 → Int32 → Int32 → Int32 → Prop) → Prop) (g : Int32 → Int32 → Int32 → Int32 → Int32 → Int32 → Int32 → Prop) : Prop := ∃ K : Int32 → Int32 → Int32 → Int32 → Int32 → Int32 → Int32 → Prop, f K ∧ ∀ (a0 : Int32) (a1 : Int32) (a2 : Int32) (a3 : Int32) (a4 : Int32) (a5 : Int32) (a6 : Int32), K a0 a1 a2 a3 a4 a5 a6 → g a0 a1 a2 a3 a4 a5 a6
theorem hp_jn7_i {f : (Int32 → Int32 → Int32 → Int32 → Int32 → Int32 → Int32 → Prop) → Prop} {g : Int32 → Int32 → Int32 → Int32 → Int32 → Int32 → Int32 → Prop} (h : f g) : hp_jn7 f g := ⟨g, h, fun _ _ _ _ _ _ _ q => q⟩
def hp_lp7h (body : Int32 → Int32 → Int32 → Int32 → Int32 → Int32 → Int32 → hp_H → (Int32 → Int32 → Int32 → Int32 → Int32 → Int32 → Int32 → hp_H → Prop) → Prop) (a0 : Int32) (a1 : Int32) (a2 : Int32) (a3 : Int32) (a4 : Int32) (a5 : Int32) (a6 : Int32) (h : hp_H) : Prop := ∀ P : Int32 → Int32 → Int32 → Int32 → Int32 → Int32 → Int32 → hp_H → Prop, (∀ (a0 : Int32) (a1 : Int32) (a2 : Int32) (a3 : Int32) (a4 : Int32) (a5 : Int32) (a6 : Int32) (h : hp_H), (∃ B : Int32 → Int32 → Int32 → Int32 → Int32 → Int32 → Int32 → hp_H → Prop, body a0 a1 a2 a3 a4 a5 a6 h B ∧ ∀ (b0 : Int32) (b1 : Int32) (b2 : Int32) (b3 : Int32) (b4 : Int32) (b5 : Int32) (b6 : Int32) (g : hp_H), B b0 b1 b2 b3 b4 b5 b6 g → P b0 b1 b2 b3 b4 b5 b6 g) → P a0 a1 a2 a3 a4 a5 a6 h) → P a0 a1 a2 a3 a4 a5 a6 h
theorem hp_lp7h_ind {body : Int32 → Int32 → Int32 → Int32 → Int32 → Int32 → Int32 → hp_H → (Int32 → Int32 → Int32 → Int32 → Int32 → Int32 → Int32 → hp_H → Prop) → Prop} (I : Int32 → Int32 → Int32 → Int32 → Int32 → Int32 → Int32 → hp_H → Prop) (μ : Int32 → Int32 → Int32 → Int32 → Int32 → Int32 → Int32 → hp_H → Nat) (hs : ∀ (a0 : Int32) (a1 : Int32) (a2 : Int32) (a3 : Int32) (a4 : Int32) (a5 : Int32) (a6 : Int32) (h : hp_H), I a0 a1 a2 a3 a4 a5 a6 h → body a0 a1 a2 a3 a4 a5 a6 h (fun b0 b1 b2 b3 b4 b5 b6 g => I b0 b1 b2 b3 b4 b5 b6 g ∧ μ b0 b1 b2 b3 b4 b5 b6 g < μ a0 a1 a2 a3 a4 a5 a6 h)) {a0 : Int32} {a1 : Int32} {a2 : Int32} {a3 : Int32} {a4 : Int32} {a5 : Int32} {a6 : Int32} {h : hp_H} (h0 : I a0 a1 a2 a3 a4 a5 a6 h) : hp_lp7h body a0 a1 a2 a3 a4 a5 a6 h := by
  intro P hP
  have key : ∀ n : Nat, ∀ (a0 : Int32) (a1 : Int32) (a2 : Int32) (a3 : Int32) (a4 : Int32) (a5 : Int32) (a6 : Int32) (h : hp_H), μ a0 a1 a2 a3 a4 a5 a6 h < n → I a0 a1 a2 a3 a4 a5 a6 h → P a0 a1 a2 a3 a4 a5 a6 h := by
    intro n
    induction n with
    | zero => intro a0 a1 a2 a3 a4 a5 a6 h h1; omega
    | succ n ih => exact fun a0 a1 a2 a3 a4 a5 a6 h h1 h2 => hP a0 a1 a2 a3 a4 a5 a6 h ⟨_, hs a0 a1 a2 a3 a4 a5 a6 h h2, fun b0 b1 b2 b3 b4 b5 b6 g hb => ih b0 b1 b2 b3 b4 b5 b6 g (by omega) hb.1⟩
  exact key (μ a0 a1 a2 a3 a4 a5 a6 h + 1) a0 a1 a2 a3 a4 a5 a6 h (Nat.lt_succ_self _) h0
def hp_jn7h (f : (Int32 → Int32 → Int32 → Int32 → Int32 → Int32 → Int32 → hp_H → Prop) → Prop) (g : Int32 → Int32 → Int32 → Int32 → Int32 → Int32 → Int32 → hp_H → Prop) : Prop := ∃ K : Int32 → Int32 → Int32 → Int32 → Int32 → Int32 → Int32 → hp_H → Prop, f K ∧ ∀ (a0 : Int32) (a1 : Int32) (a2 : Int32) (a3 : Int32) (a4 : Int32) (a5 : Int32) (a6 : Int32) (h : hp_H), K a0 a1 a2 a3 a4 a5 a6 h → g a0 a1 a2 a3 a4 a5 a6 h
theorem hp_jn7h_i {f : (Int32 → Int32 → Int32 → Int32 → Int32 → Int32 → Int32 → hp_H → Prop) → Prop} {g : Int32 → Int32 → Int32 → Int32 → Int32 → Int32 → Int32 → hp_H → Prop} (h : f g) : hp_jn7h f g := ⟨g, h, fun _ _ _ _ _ _ _ _ q => q⟩
def hp_lp8 (body : Int32 → Int32 → Int32 → Int32 → Int32 → Int32 → Int32 → Int32 → (Int32 → Int32 → Int32 → Int32 → Int32 → Int32 → Int32 → Int32 → Prop) → Prop) (a0 : Int32) (a1 : Int32) (a2 : Int32) (a3 : Int32) (a4 : Int32) (a5 : Int32) (a6 : Int32) (a7 : Int32) : Prop := ∀ P : Int32 → Int32 → Int32 → Int32 → Int32 → Int32 → Int32 → Int32 → Prop, (∀ (a0 : Int32) (a1 : Int32) (a2 : Int32) (a3 : Int32) (a4 : Int32) (a5 : Int32) (a6 : Int32) (a7 : Int32), (∃ B : Int32 → Int32 → Int32 → Int32 → Int32 → Int32 → Int32 → Int32 → Prop, body a0 a1 a2 a3 a4 a5 a6 a7 B ∧ ∀ (b0 : Int32) (b1 : Int32) (b2 : Int32) (b3 : Int32) (b4 : Int32) (b5 : Int32) (b6 : Int32) (b7 : Int32), B b0 b1 b2 b3 b4 b5 b6 b7 → P b0 b1 b2 b3 b4 b5 b6 b7) → P a0 a1 a2 a3 a4 a5 a6 a7) → P a0 a1 a2 a3 a4 a5 a6 a7
theorem hp_lp8_ind {body : Int32 → Int32 → Int32 → Int32 → Int32 → Int32 → Int32 → Int32 → (Int32 → Int32 → Int32 → Int32 → Int32 → Int32 → Int32 → Int32 → Prop) → Prop} (I : Int32 → Int32 → Int32 → Int32 → Int32 → Int32 → Int32 → Int32 → Prop) (μ : Int32 → Int32 → Int32 → Int32 → Int32 → Int32 → Int32 → Int32 → Nat) (hs : ∀ (a0 : Int32) (a1 : Int32) (a2 : Int32) (a3 : Int32) (a4 : Int32) (a5 : Int32) (a6 : Int32) (a7 : Int32), I a0 a1 a2 a3 a4 a5 a6 a7 → body a0 a1 a2 a3 a4 a5 a6 a7 (fun b0 b1 b2 b3 b4 b5 b6 b7 => I b0 b1 b2 b3 b4 b5 b6 b7 ∧ μ b0 b1 b2 b3 b4 b5 b6 b7 < μ a0 a1 a2 a3 a4 a5 a6 a7)) {a0 : Int32} {a1 : Int32} {a2 : Int32} {a3 : Int32} {a4 : Int32} {a5 : Int32} {a6 : Int32} {a7 : Int32} (h0 : I a0 a1 a2 a3 a4 a5 a6 a7) : hp_lp8 body a0 a1 a2 a3 a4 a5 a6 a7 := by
  intro P hP
  have key : ∀ n : Nat, ∀ (a0 : Int32) (a1 : Int32) (a2 : Int32) (a3 : Int32) (a4 : Int32) (a5 : Int32) (a6 : Int32) (a7 : Int32), μ a0 a1 a2 a3 a4 a5 a6 a7 < n → I a0 a1 a2 a3 a4 a5 a6 a7 → P a0 a1 a2 a3 a4 a5 a6 a7 := by
    intro n
    induction n with
    | zero => intro a0 a1 a2 a3 a4 a5 a6 a7 h1; omega
    | succ n ih => exact fun a0 a1 a2 a3 a4 a5 a6 a7 h1 h2 => hP a0 a1 a2 a3 a4 a5 a6 a7 ⟨_, hs a0 a1 a2 a3 a4 a5 a6 a7 h2, fun b0 b1 b2 b3 b4 b5 b6 b7 hb => ih b0 b1 b2 b3 b4 b5 b6 b7 (by omega) hb.1⟩
  exact key (μ a0 a1 a2 a3 a4 a5 a6 a7 + 1) a0 a1 a2 a3 a4 a5 a6 a7 (Nat.lt_succ_self _) h0
def hp_jn8 (f : (Int32 → Int32 → Int32 → Int32 → Int32 → Int32 → Int32 → Int32 → Prop) → Prop) (g : Int32 → Int32 → Int32 → Int32 → Int32 → Int32 → Int32 → Int32 → Prop) : Prop := ∃ K : Int32 → Int32 → Int32 → Int32 → Int32 → Int32 → Int32 → Int32 → Prop, f K ∧ ∀ (a0 : Int32) (a1 : Int32) (a2 : Int32) (a3 : Int32) (a4 : Int32) (a5 : Int32) (a6 : Int32) (a7 : Int32), K a0 a1 a2 a3 a4 a5 a6 a7 → g a0 a1 a2 a3 a4 a5 a6 a7
theorem hp_jn8_i {f : (Int32 → Int32 → Int32 → Int32 → Int32 → Int32 → Int32 → Int32 → Prop) → Prop} {g : Int32 → Int32 → Int32 → Int32 → Int32 → Int32 → Int32 → Int32 → Prop} (h : f g) : hp_jn8 f g := ⟨g, h, fun _ _ _ _ _ _ _ _ q => q⟩
def hp_lp8h (body : Int32 → Int32 → Int32 → Int32 → Int32 → Int32 → Int32 → Int32 → hp_H → (Int32 → Int32 → Int32 → Int32 → Int32 → Int32 → Int32 → Int32 → hp_H → Prop) → Prop) (a0 : Int32) (a1 : Int32) (a2 : Int32) (a3 : Int32) (a4 : Int32) (a5 : Int32) (a6 : Int32) (a7 : Int32) (h : hp_H) : Prop := ∀ P : Int32 → Int32 → Int32 → Int32 → Int32 → Int32 → Int32 → Int32 → hp_H → Prop, (∀ (a0 : Int32) (a1 : Int32) (a2 : Int32) (a3 : Int32) (a4 : Int32) (a5 : Int32) (a6 : Int32) (a7 : Int32) (h : hp_H), (∃ B : Int32 → Int32 → Int32 → Int32 → Int32 → Int32 → Int32 → Int32 → hp_H → Prop, body a0 a1 a2 a3 a4 a5 a6 a7 h B ∧ ∀ (b0 : Int32) (b1 : Int32) (b2 : Int32) (b3 : Int32) (b4 : Int32) (b5 : Int32) (b6 : Int32) (b7 : Int32) (g : hp_H), B b0 b1 b2 b3 b4 b5 b6 b7 g → P b0 b1 b2 b3 b4 b5 b6 b7 g) → P a0 a1 a2 a3 a4 a5 a6 a7 h) → P a0 a1 a2 a3 a4 a5 a6 a7 h
theorem hp_lp8h_ind {body : Int32 → Int32 → Int32 → Int32 → Int32 → Int32 → Int32 → Int32 → hp_H → (Int32 → Int32 → Int32 → Int32 → Int32 → Int32 → Int32 → Int32 → hp_H → Prop) → Prop} (I : Int32 → Int32 → Int32 → Int32 → Int32 → Int32 → Int32 → Int32 → hp_H → Prop) (μ : Int32 → Int32 → Int32 → Int32 → Int32 → Int32 → Int32 → Int32 → hp_H → Nat) (hs : ∀ (a0 : Int32) (a1 : Int32) (a2 : Int32) (a3 : Int32) (a4 : Int32) (a5 : Int32) (a6 : Int32) (a7 : Int32) (h : hp_H), I a0 a1 a2 a3 a4 a5 a6 a7 h → body a0 a1 a2 a3 a4 a5 a6 a7 h (fun b0 b1 b2 b3 b4 b5 b6 b7 g => I b0 b1 b2 b3 b4 b5 b6 b7 g ∧ μ b0 b1 b2 b3 b4 b5 b6 b7 g < μ a0 a1 a2 a3 a4 a5 a6 a7 h)) {a0 : Int32} {a1 : Int32} {a2 : Int32} {a3 : Int32} {a4 : Int32} {a5 : Int32} {a6 : Int32} {a7 : Int32} {h : hp_H} (h0 : I a0 a1 a2 a3 a4 a5 a6 a7 h) : hp_lp8h body a0 a1 a2 a3 a4 a5 a6 a7 h := by
  intro P hP
  have key : ∀ n : Nat, ∀ (a0 : Int32) (a1 : Int32) (a2 : Int32) (a3 : Int32) (a4 : Int32) (a5 : Int32) (a6 : Int32) (a7 : Int32) (h : hp_H), μ a0 a1 a2 a3 a4 a5 a6 a7 h < n → I a0 a1 a2 a3 a4 a5 a6 a7 h → P a0 a1 a2 a3 a4 a5 a6 a7 h := by
    intro n
    induction n with
    | zero => intro a0 a1 a2 a3 a4 a5 a6 a7 h h1; omega
    | succ n ih => exact fun a0 a1 a2 a3 a4 a5 a6 a7 h h1 h2 => hP a0 a1 a2 a3 a4 a5 a6 a7 h ⟨_, hs a0 a1 a2 a3 a4 a5 a6 a7 h h2, fun b0 b1 b2 b3 b4 b5 b6 b7 g hb => ih b0 b1 b2 b3 b4 b5 b6 b7 g (by omega) hb.1⟩
  exact key (μ a0 a1 a2 a3 a4 a5 a6 a7 h + 1) a0 a1 a2 a3 a4 a5 a6 a7 h (Nat.lt_succ_self _) h0
def hp_jn8h (f : (Int32 → Int32 → Int32 → Int32 → Int32 → Int32 → Int32 → Int32 → hp_H → Prop) → Prop) (g : Int32 → Int32 → Int32 → Int32 → Int32 → Int32 → Int32 → Int32 → hp_H → Prop) : Prop := ∃ K : Int32 → Int32 → Int32 → Int32 → Int32 → Int32 → Int32 → Int32 → hp_H → Prop, f K ∧ ∀ (a0 : Int32) (a1 : Int32) (a2 : Int32) (a3 : Int32) (a4 : Int32) (a5 : Int32) (a6 : Int32) (a7 : Int32) (h : hp_H), K a0 a1 a2 a3 a4 a5 a6 a7 h → g a0 a1 a2 a3 a4 a5 a6 a7 h
theorem hp_jn8h_i {f : (Int32 → Int32 → Int32 → Int32 → Int32 → Int32 → Int32 → Int32 → hp_H → Prop) → Prop} {g : Int32 → Int32 → Int32 → Int32 → Int32 → Int32 → Int32 → Int32 → hp_H → Prop} (h : f g) : hp_jn8h f g := ⟨g, h, fun _ _ _ _ _ _ _ _ _ q => q⟩
def hp_lp9 (body : Int32 → Int32 → Int32 → Int32 → Int32 → Int32 → Int32 → Int32 → Int32 → (Int32 → Int32 → Int32 → Int32 → Int32 → Int32 → Int32 → Int32 → Int32 → Prop) → Prop) (a0 : Int32) (a1 : Int32) (a2 : Int32) (a3 : Int32) (a4 : Int32) (a5 : Int32) (a6 : Int32) (a7 : Int32) (a8 : Int32) : Prop := ∀ P : Int32 → Int32 → Int32 → Int32 → Int32 → Int32 → Int32 → Int32 → Int32 → Prop, (∀ (a0 : Int32) (a1 : Int32) (a2 : Int32) (a3 : Int32) (a4 : Int32) (a5 : Int32) (a6 : Int32) (a7 : Int32) (a8 : Int32), (∃ B : Int32 → Int32 → Int32 → Int32 → Int32 → Int32 → Int32 → Int32 → Int32 → Prop, body a0 a1 a2 a3 a4 a5 a6 a7 a8 B ∧ ∀ (b0 : Int32) (b1 : Int32) (b2 : Int32) (b3 : Int32) (b4 : Int32) (b5 : Int32) (b6 : Int32) (b7 : Int32) (b8 : Int32), B b0 b1 b2 b3 b4 b5 b6 b7 b8 → P b0 b1 b2 b3 b4 b5 b6 b7 b8) → P a0 a1 a2 a3 a4 a5 a6 a7 a8) → P a0 a1 a2 a3 a4 a5 a6 a7 a8
theorem hp_lp9_ind {body : Int32 → Int32 → Int32 → Int32 → Int32 → Int32 → Int32 → Int32 → Int32 → (Int32 → Int32 → Int32 → Int32 → Int32 → Int32 → Int32 → Int32 → Int32 → Prop) → Prop} (I : Int32 → Int32 → Int32 → Int32 → Int32 → Int32 → Int32 → Int32 → Int32 → Prop) (μ : Int32 → Int32 → Int32 → Int32 → Int32 → Int32 → Int32 → Int32 → Int32 → Nat) (hs : ∀ (a0 : Int32) (a1 : Int32) (a2 : Int32) (a3 : Int32) (a4 : Int32) (a5 : Int32) (a6 : Int32) (a7 : Int32) (a8 : Int32), I a0 a1 a2 a3 a4 a5 a6 a7 a8 → body a0 a1 a2 a3 a4 a5 a6 a7 a8 (fun b0 b1 b2 b3 b4 b5 b6 b7 b8 => I b0 b1 b2 b3 b4 b5 b6 b7 b8 ∧ μ b0 b1 b2 b3 b4 b5 b6 b7 b8 < μ a0 a1 a2 a3 a4 a5 a6 a7 a8)) {a0 : Int32} {a1 : Int32} {a2 : Int32} {a3 : Int32} {a4 : Int32} {a5 : Int32} {a6 : Int32} {a7 : Int32} {a8 : Int32} (h0 : I a0 a1 a2 a3 a4 a5 a6 a7 a8) : hp_lp9 body a0 a1 a2 a3 a4 a5 a6 a7 a8 := by
  intro P hP
  have key : ∀ n : Nat, ∀ (a0 : Int32) (a1 : Int32) (a2 : Int32) (a3 : Int32) (a4 : Int32) (a5 : Int32) (a6 : Int32) (a7 : Int32) (a8 : Int32), μ a0 a1 a2 a3 a4 a5 a6 a7 a8 < n → I a0 a1 a2 a3 a4 a5 a6 a7 a8 → P a0 a1 a2 a3 a4 a5 a6 a7 a8 := by
    intro n
    induction n with
    | zero => intro a0 a1 a2 a3 a4 a5 a6 a7 a8 h1; omega
    | succ n ih => exact fun a0 a1 a2 a3 a4 a5 a6 a7 a8 h1 h2 => hP a0 a1 a2 a3 a4 a5 a6 a7 a8 ⟨_, hs a0 a1 a2 a3 a4 a5 a6 a7 a8 h2, fun b0 b1 b2 b3 b4 b5 b6 b7 b8 hb => ih b0 b1 b2 b3 b4 b5 b6 b7 b8 (by omega) hb.1⟩
  exact key (μ a0 a1 a2 a3 a4 a5 a6 a7 a8 + 1) a0 a1 a2 a3 a4 a5 a6 a7 a8 (Nat.lt_succ_self _) h0
def hp_jn9 (f : (Int32 → Int32 → Int32 → Int32 → Int32 → Int32 → Int32 → Int32 → Int32 → Prop) → Prop) (g : Int32 → Int32 → Int32 → Int32 → Int32 → Int32 → Int32 → Int32 → Int32 → Prop) : Prop := ∃ K : Int32 → Int32 → Int32 → Int32 → Int32 → Int32 → Int32 → Int32 → Int32 → Prop, f K ∧ ∀ (a0 : Int32) (a1 : Int32) (a2 : Int32) (a3 : Int32) (a4 : Int32) (a5 : Int32) (a6 : Int32) (a7 : Int32) (a8 : Int32), K a0 a1 a2 a3 a4 a5 a6 a7 a8 → g a0 a1 a2 a3 a4 a5 a6 a7 a8
theorem hp_jn9_i {f : (Int32 → Int32 → Int32 → Int32 → Int32 → Int32 → Int32 → Int32 → Int32 → Prop) → Prop} {g : Int32 → Int32 → Int32 → Int32 → Int32 → Int32 → Int32 → Int32 → Int32 → Prop} (h : f g) : hp_jn9 f g := ⟨g, h, fun _ _ _ _ _ _ _ _ _ q => q⟩
def hp_lp9h (body : Int32 → Int32 → Int32 → Int32 → Int32 → Int32 → Int32 → Int32 → Int32 → hp_H → (Int32 → Int32 → Int32 → Int32 → Int32 → Int32 → Int32 → Int32 → Int32 → hp_H → Prop) → Prop) (a0 : Int32) (a1 : Int32) (a2 : Int32) (a3 : Int32) (a4 : Int32) (a5 : Int32) (a6 : Int32) (a7 : Int32) (a8 : Int32) (h : hp_H) : Prop := ∀ P : Int32 → Int32 → Int32 → Int32 → Int32 → Int32 → Int32 → Int32 → Int32 → hp_H → Prop, (∀ (a0 : Int32) (a1 : Int32) (a2 : Int32) (a3 : Int32) (a4 : Int32) (a5 : Int32) (a6 : Int32) (a7 : Int32) (a8 : Int32) (h : hp_H), (∃ B : Int32 → Int32 → Int32 → Int32 → Int32 → Int32 → Int32 → Int32 → Int32 → hp_H → Prop, body a0 a1 a2 a3 a4 a5 a6 a7 a8 h B ∧ ∀ (b0 : Int32) (b1 : Int32) (b2 : Int32) (b3 : Int32) (b4 : Int32) (b5 : Int32) (b6 : Int32) (b7 : Int32) (b8 : Int32) (g : hp_H), B b0 b1 b2 b3 b4 b5 b6 b7 b8 g → P b0 b1 b2 b3 b4 b5 b6 b7 b8 g) → P a0 a1 a2 a3 a4 a5 a6 a7 a8 h) → P a0 a1 a2 a3 a4 a5 a6 a7 a8 h
theorem hp_lp9h_ind {body : Int32 → Int32 → Int32 → Int32 → Int32 → Int32 → Int32 → Int32 → Int32 → hp_H → (Int32 → Int32 → Int32 → Int32 → Int32 → Int32 → Int32 → Int32 → Int32 → hp_H → Prop) → Prop} (I : Int32 → Int32 → Int32 → Int32 → Int32 → Int32 → Int32 → Int32 → Int32 → hp_H → Prop) (μ : Int32 → Int32 → Int32 → Int32 → Int32 → Int32 → Int32 → Int32 → Int32 → hp_H → Nat) (hs : ∀ (a0 : Int32) (a1 : Int32) (a2 : Int32) (a3 : Int32) (a4 : Int32) (a5 : Int32) (a6 : Int32) (a7 : Int32) (a8 : Int32) (h : hp_H), I a0 a1 a2 a3 a4 a5 a6 a7 a8 h → body a0 a1 a2 a3 a4 a5 a6 a7 a8 h (fun b0 b1 b2 b3 b4 b5 b6 b7 b8 g => I b0 b1 b2 b3 b4 b5 b6 b7 b8 g ∧ μ b0 b1 b2 b3 b4 b5 b6 b7 b8 g < μ a0 a1 a2 a3 a4 a5 a6 a7 a8 h)) {a0 : Int32} {a1 : Int32} {a2 : Int32} {a3 : Int32} {a4 : Int32} {a5 : Int32} {a6 : Int32} {a7 : Int32} {a8 : Int32} {h : hp_H} (h0 : I a0 a1 a2 a3 a4 a5 a6 a7 a8 h) : hp_lp9h body a0 a1 a2 a3 a4 a5 a6 a7 a8 h := by
  intro P hP
  have key : ∀ n : Nat, ∀ (a0 : Int32) (a1 : Int32) (a2 : Int32) (a3 : Int32) (a4 : Int32) (a5 : Int32) (a6 : Int32) (a7 : Int32) (a8 : Int32) (h : hp_H), μ a0 a1 a2 a3 a4 a5 a6 a7 a8 h < n → I a0 a1 a2 a3 a4 a5 a6 a7 a8 h → P a0 a1 a2 a3 a4 a5 a6 a7 a8 h := by
    intro n
    induction n with
    | zero => intro a0 a1 a2 a3 a4 a5 a6 a7 a8 h h1; omega
    | succ n ih => exact fun a0 a1 a2 a3 a4 a5 a6 a7 a8 h h1 h2 => hP a0 a1 a2 a3 a4 a5 a6 a7 a8 h ⟨_, hs a0 a1 a2 a3 a4 a5 a6 a7 a8 h h2, fun b0 b1 b2 b3 b4 b5 b6 b7 b8 g hb => ih b0 b1 b2 b3 b4 b5 b6 b7 b8 g (by omega) hb.1⟩
  exact key (μ a0 a1 a2 a3 a4 a5 a6 a7 a8 h + 1) a0 a1 a2 a3 a4 a5 a6 a7 a8 h (Nat.lt_succ_self _) h0
def hp_jn9h (f : (Int32 → Int32 → Int32 → Int32 → Int32 → Int32 → Int32 → Int32 → Int32 → hp_H → Prop) → Prop) (g : Int32 → Int32 → Int32 → Int32 → Int32 → Int32 → Int32 → Int32 → Int32 → hp_H → Prop) : Prop := ∃ K : Int32 → Int32 → Int32 → Int32 → Int32 → Int32 → Int32 → Int32 → Int32 → hp_H → Prop, f K ∧ ∀ (a0 : Int32) (a1 : Int32) (a2 : Int32) (a3 : Int32) (a4 : Int32) (a5 : Int32) (a6 : Int32) (a7 : Int32) (a8 : Int32) (h : hp_H), K a0 a1 a2 a3 a4 a5 a6 a7 a8 h → g a0 a1 a2 a3 a4 a5 a6 a7 a8 h
theorem hp_jn9h_i {f : (Int32 → Int32 → Int32 → Int32 → Int32 → Int32 → Int32 → Int32 → Int32 → hp_H → Prop) → Prop} {g : Int32 → Int32 → Int32 → Int32 → Int32 → Int32 → Int32 → Int32 → Int32 → hp_H → Prop} (h : f g) : hp_jn9h f g := ⟨g, h, fun _ _ _ _ _ _ _ _ _ _ q => q⟩
