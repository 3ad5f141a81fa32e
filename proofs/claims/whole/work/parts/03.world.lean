/-! ===== a heap of whole numbers, the shapes of cells, worlds out of both ===== -/
abbrev hp_H : Type := Nat → Nat → Int32
/-- an object: the number of its kind and its fields (0: a whole number; 1: the cell x; 2: the cell x + what the numbers' cell 999 says; 3: null); or an array: 0 of int, 1 of long, 2 of boolean, and its length -/
def hp_V : Nat := 999
abbrev hp_S : Type := (Nat × List (Nat × Nat × Nat)) ⊕ (Nat × Nat)
def hp_up (h : hp_H) (k j : Nat) (v : Int32) : hp_H := fun a b => if a = k ∧ b = j then v else h a b
def hp_cp (h : hp_H) (k0 k1 sp dp n : Nat) : hp_H := fun a b => if a = k1 then va_cpy (h k0) (h k1) sp dp n b else h a b
def hp_hi (x : Int64) : Int32 := ⟨⟨x.toBitVec.extractLsb' 32 32⟩⟩
def hp_lo (x : Int64) : Int32 := ⟨⟨x.toBitVec.extractLsb' 0 32⟩⟩
def hp_mk (a b : Int32) : Int64 := ⟨⟨a.toBitVec ++ b.toBitVec⟩⟩
theorem hp_mk_hl (x : Int64) : hp_mk (hp_hi x) (hp_lo x) = x := by
  apply Int64.toBitVec_inj.mp
  show (x.toBitVec.extractLsb' 32 32 ++ x.toBitVec.extractLsb' 0 32) = x.toBitVec
  apply BitVec.eq_of_getLsbD_eq
  intro i hi
  rw [BitVec.getLsbD_append]
  by_cases h : i < 32
  · simp [h, BitVec.getLsbD_extractLsb']
  · have h2 : i - 32 < 32 := by omega
    have h3 : 32 + (i - 32) = i := by omega
    simp [h, BitVec.getLsbD_extractLsb', h2, h3]
def hp_upL (h : hp_H) (k j : Nat) (x : Int64) : hp_H := hp_up (hp_up h k (2 * j) (hp_hi x)) k (2 * j + 1) (hp_lo x)
def hp_ldL (h : hp_H) (k j : Nat) : Int64 := hp_mk (h k (2 * j)) (h k (2 * j + 1))
def hp_fv (ad : Nat → Nat) (h : hp_H) (k j : Nat) (d : Nat × Nat × Nat) : Value := match d.1 with
  | 0 => .int (h k j)
  | 1 => .ref (ad d.2.1)
  | 2 => .ref (ad (d.2.1 + (h hp_V d.2.2).toNatClampNeg))
  | _ => .null
def hp_mi {α β : Type} (f : Nat → α → β) : Nat → List α → List β
  | _, [] => []
  | i, x :: xs => f i x :: hp_mi f (i + 1) xs
theorem hp_mi_len {α β : Type} (f : Nat → α → β) (l : List α) : ∀ i : Nat, (hp_mi f i l).length = l.length := by
  induction l with
  | nil => intro i; rfl
  | cons x xs ih => intro i; simp only [hp_mi, List.length_cons, ih]
theorem hp_mi_get {α β : Type} (f : Nat → α → β) (l : List α) : ∀ i j : Nat, (hp_mi f i l)[j]? = l[j]?.map (f (i + j)) := by
  induction l with
  | nil => intro i j; simp [hp_mi]
  | cons x xs ih =>
    intro i j
    cases j with
    | zero => simp [hp_mi]
    | succ j =>
      simp only [hp_mi, List.getElem?_cons_succ, ih]
      rw [show i + 1 + j = i + (j + 1) by omega]
theorem hp_mi_get0 {α β : Type} (f : Nat → α → β) (l : List α) (j : Nat) : (hp_mi f 0 l)[j]? = l[j]?.map (f j) := by rw [hp_mi_get, Nat.zero_add]
def hp_fs (ad : Nat → Nat) (h : hp_H) (k : Nat) (ds : List (Nat × Nat × Nat)) : List Value := hp_mi (fun j d => hp_fv ad h k j d) 0 ds
def hp_A (h : hp_H) (k : Nat) (t : Nat) : (Nat → Int32) ⊕ (Nat → Int64) ⊕ (Nat → UInt32) ⊕ (Nat → UInt64) ⊕ (Nat → Option Nat) := match t with
  | 1 => .inr (.inl (fun i => hp_ldL h k i))
  | _ => .inl (fun i => h k i)
def hp_E (cs : Nat → ClassId) (ad : Nat → Nat) (h : hp_H) (k : Nat) (s : hp_S) : va_E := match s with
  | .inl o => .inr (o.1, hp_fs ad h k o.2)
  | .inr a => .inl (cs a.1, a.2, hp_A h k a.1)
def hp_W (S : List hp_S) (cs : Nat → ClassId) (ad : Nat → Nat) (h : hp_H) : va_W := hp_mi (fun k s => (ad k, hp_E cs ad h k s)) 0 S
abbrev hp_tys (cs : Nat → ClassId) : List (ClassId × FieldType) := [(cs 0, .int), (cs 1, .long), (cs 2, .boolean)]
/-- the addresses are apart, and of a kind -/
def hp_J (S : List hp_S) (ad : Nat → Nat) (A : Nat → Prop) : Prop := (∀ i j : Nat, i < S.length → j < S.length → ad i = ad j → i = j) ∧ ∀ i : Nat, i < S.length → A (ad i)
theorem hp_W_get {S : List hp_S} {cs : Nat → ClassId} {ad : Nat → Nat} {h : hp_H} {k : Nat} {x : hp_S} (hk : S[k]? = some x) : (hp_W S cs ad h)[k]? = some (ad k, hp_E cs ad h k x) := by
  simp [hp_W, hp_mi_get0, hk]
theorem hp_W_of {S : List hp_S} {cs : Nat → ClassId} {ad : Nat → Nat} {h : hp_H} {k : Nat} {q : Nat × va_E} (hk : (hp_W S cs ad h)[k]? = some q) : k < S.length ∧ q.1 = ad k := by
  simp only [hp_W, hp_mi_get0, Option.map_eq_some_iff] at hk
  obtain ⟨x, h1, h2⟩ := hk
  exact ⟨(List.getElem?_eq_some_iff.mp h1).1, by rw [← h2]⟩
theorem hp_J.D {S : List hp_S} {cs : Nat → ClassId} {ad : Nat → Nat} {A : Nat → Prop} (hj : hp_J S ad A) (h : hp_H) : va_D A (hp_W S cs ad h) := by
  refine ⟨fun i j p q hi hj' e => ?_, fun k q hk => ?_⟩
  · obtain ⟨a1, a2⟩ := hp_W_of hi
    obtain ⟨b1, b2⟩ := hp_W_of hj'
    exact hj.1 i j a1 b1 (by rw [← a2, ← b2]; exact e)
  · obtain ⟨a1, a2⟩ := hp_W_of hk
    rw [a2]
    exact hj.2 k a1
theorem hp_fs_get {ad : Nat → Nat} {h : hp_H} {k j : Nat} {ds : List (Nat × Nat × Nat)} {d : Nat × Nat × Nat} (hd : ds[j]? = some d) : (hp_fs ad h k ds)[j]? = some (hp_fv ad h k j d) := by
  simp [hp_fs, hp_mi_get0, hd]
/-- a cell whose numbers are as before is as before -/
theorem hp_E_eq {cs : Nat → ClassId} {ad : Nat → Nat} {h h' : hp_H} {k : Nat} (h1 : h' k = h k) (h2 : h' hp_V = h hp_V) (x : hp_S) : hp_E cs ad h' k x = hp_E cs ad h k x := by
  have e1 : ∀ (j : Nat) (d : Nat × Nat × Nat), hp_fv ad h' k j d = hp_fv ad h k j d := fun j d => by simp only [hp_fv, h1, h2]
  have e2 : ∀ t : Nat, hp_A h' k t = hp_A h k t := fun t => by simp only [hp_A, hp_ldL, h1]
  cases x with
  | inl o => simp only [hp_E, hp_fs, e1]
  | inr a => simp only [hp_E, e2]
theorem hp_W_set {S : List hp_S} {cs : Nat → ClassId} {ad : Nat → Nat} {h h' : hp_H} {k : Nat} {x x' : hp_S} {E : va_E} (hk : S[k]? = some x) (hE : hp_E cs ad h' k x' = E) (ho : ∀ i, i < S.length → i ≠ k → h' i = h i) (h9 : h' hp_V = h hp_V) :
    (hp_W S cs ad h).set k (ad k, E) = hp_W (S.set k x') cs ad h' := by
  have hl := (List.getElem?_eq_some_iff.mp hk).1
  apply List.ext_getElem?
  intro i
  by_cases hi : i = k
  · subst hi
    rw [List.getElem?_set_self (by rw [hp_W, hp_mi_len]; exact hl)]
    simp [hp_W, hp_mi_get0, hl, hE]
  · rw [List.getElem?_set_ne (Ne.symm hi)]
    simp only [hp_W, hp_mi_get0, List.getElem?_set_ne (Ne.symm hi)]
    cases hs : S[i]? with
    | none => simp only [Option.map_none]
    | some y =>
      have hil := (List.getElem?_eq_some_iff.mp hs).1
      simp only [Option.map_some, hp_E_eq (ho i hil hi) h9]
theorem hp_set_self {α : Type} {S : List α} {k : Nat} {x : α} (hk : S[k]? = some x) : S.set k x = S := by
  apply List.ext_getElem?
  intro i
  by_cases hi : i = k
  · subst hi
    rw [List.getElem?_set_self (List.getElem?_eq_some_iff.mp hk).1, hk]
  · rw [List.getElem?_set_ne (Ne.symm hi)]
theorem hp_up_row {h : hp_H} {k j i : Nat} {v : Int32} (hi : i ≠ k) : hp_up h k j v i = h i := by
  funext b
  simp [hp_up, hi]
theorem hp_up_same (h : hp_H) (k j : Nat) (v : Int32) : hp_up h k j v k j = v := by simp [hp_up]
theorem hp_up_slot {h : hp_H} {k j b : Nat} {v : Int32} (hb : b ≠ j) : hp_up h k j v k b = h k b := by simp [hp_up, hb]
theorem hp_up_fn (h : hp_H) (k j : Nat) (v : Int32) : (fun i => hp_up h k j v k i) = upd (fun i => h k i) j v := by
  funext i
  by_cases hi : i = j
  · simp [hp_up, upd, hi]
  · simp [hp_up, upd, hi]
theorem hp_upL_row {h : hp_H} {k j i : Nat} {v : Int64} (hi : i ≠ k) : hp_upL h k j v i = h i := by
  unfold hp_upL
  rw [hp_up_row hi, hp_up_row hi]
theorem hp_upL_same (h : hp_H) (k j : Nat) (x : Int64) : hp_ldL (hp_upL h k j x) k j = x := by
  unfold hp_ldL hp_upL
  rw [hp_up_same, hp_up_slot (by omega), hp_up_same, hp_mk_hl]
theorem hp_upL_slot {h : hp_H} {k j b : Nat} {x : Int64} (hb : b ≠ j) : hp_ldL (hp_upL h k j x) k b = hp_ldL h k b := by
  unfold hp_ldL hp_upL
  rw [hp_up_slot (by omega), hp_up_slot (by omega), hp_up_slot (by omega), hp_up_slot (by omega)]
theorem hp_upL_fn (h : hp_H) (k j : Nat) (x : Int64) : (fun i => hp_ldL (hp_upL h k j x) k i) = vp_updL (fun i => hp_ldL h k i) j x := by
  funext i
  by_cases hi : i = j
  · subst hi
    simp [vp_updL, hp_upL_same]
  · simp [vp_updL, hi, hp_upL_slot hi]
/-- a whole number of a field is put -/
theorem hp_W_put {S : List hp_S} {cs : Nat → ClassId} {ad : Nat → Nat} {h : hp_H} {k j ci : Nat} {ds : List (Nat × Nat × Nat)} {u : Nat × Nat} (v : Int32) (hk : S[k]? = some (.inl (ci, ds))) (hd : ds[j]? = some (0, u)) (h9 : k ≠ hp_V) :
    (hp_W S cs ad h).set k (ad k, .inr (ci, (hp_fs ad h k ds).set j (.int v))) = hp_W S cs ad (hp_up h k j v) := by
  rw [hp_W_set (h' := hp_up h k j v) (x' := .inl (ci, ds)) hk ?_ (fun i _ hi => hp_up_row hi) (hp_up_row (Ne.symm h9)), hp_set_self hk]
  have hl := (List.getElem?_eq_some_iff.mp hd).1
  simp only [hp_E]
  congr 2
  apply List.ext_getElem?
  intro i
  by_cases hi : i = j
  · subst hi
    rw [List.getElem?_set_self (by rw [hp_fs, hp_mi_len]; exact hl), hp_fs_get hd]
    simp [hp_fv, hp_up]
  · rw [List.getElem?_set_ne (Ne.symm hi)]
    simp only [hp_fs, hp_mi_get0]
    cases ds[i]? with
    | none => simp only [Option.map_none]
    | some d => simp only [Option.map_some, hp_fv, hp_up_slot hi, hp_up_row (Ne.symm h9)]
/-- a reference field is put: the shape says where it leads -/
theorem hp_W_ref {S : List hp_S} {cs : Nat → ClassId} {ad : Nat → Nat} {h : hp_H} {k j ci t : Nat} {ds : List (Nat × Nat × Nat)} (hk : S[k]? = some (.inl (ci, ds))) :
    (hp_W S cs ad h).set k (ad k, .inr (ci, (hp_fs ad h k ds).set j (.ref (ad t)))) = hp_W (S.set k (.inl (ci, ds.set j (1, t, 0)))) cs ad h := by
  rw [hp_W_set (h' := h) (x' := .inl (ci, ds.set j (1, t, 0))) hk ?_ (fun i _ hi => rfl) rfl]
  simp only [hp_E]
  congr 2
  apply List.ext_getElem?
  intro i
  simp only [hp_fs, hp_mi_get0, List.getElem?_set, hp_mi_len]
  by_cases hi : j = i
  · subst hi
    by_cases hj : j < ds.length
    · simp [hj, hp_fv]
    · simp [hj]
  · simp [hi]
theorem hp_fv_same {ad : Nat → Nat} {h h' : hp_H} {k j tg u w : Nat} (h1 : h' k = h k) (h2 : tg = 2 → h' hp_V w = h hp_V w) : hp_fv ad h' k j (tg, u, w) = hp_fv ad h k j (tg, u, w) := by
  by_cases e : tg = 2
  · subst e
    simp only [hp_fv, h2 rfl]
  · unfold hp_fv
    simp only [h1]
    split
    · simp only
    · simp only
    · exact absurd rfl e
    · simp only
/-- a reference field of kind 2 is put -/
theorem hp_W_mut {S : List hp_S} {cs : Nat → ClassId} {ad : Nat → Nat} {h : hp_H} {k j ci x y t : Nat} {ds : List (Nat × Nat × Nat)} (hk : S[k]? = some (.inl (ci, ds))) (hd : ds[j]? = some (2, x, y)) (hs : S.length ≤ hp_V) (hx : x ≤ t) (ht : t - x < 2 ^ 31)
    (hu : ∀ (i : Nat) (c : Nat) (es : List (Nat × Nat × Nat)) (b : Nat) (z : Nat), S[i]? = some (.inl (c, es)) → es[b]? = some (2, z, y) → i = k ∧ b = j) :
    (hp_W S cs ad h).set k (ad k, .inr (ci, (hp_fs ad h k ds).set j (.ref (ad t)))) = hp_W S cs ad (hp_up h hp_V y (nI (t - x))) := by
  have hkl := (List.getElem?_eq_some_iff.mp hk).1
  have hl := (List.getElem?_eq_some_iff.mp hd).1
  have row : ∀ i, i < S.length → hp_up h hp_V y (nI (t - x)) i = h i := fun i hi => hp_up_row (by omega)
  apply List.ext_getElem?
  intro i
  by_cases hi : i = k
  · subst hi
    rw [List.getElem?_set_self (by rw [hp_W, hp_mi_len]; exact hkl)]
    simp only [hp_W, hp_mi_get0, hk, Option.map_some, hp_E]
    congr 4
    apply List.ext_getElem?
    intro b
    by_cases hb : b = j
    · subst hb
      rw [List.getElem?_set_self (by rw [hp_fs, hp_mi_len]; exact hl), hp_fs_get hd]
      simp only [hp_fv, hp_up_same, nI_clamp ht]
      congr 3
      omega
    · rw [List.getElem?_set_ne (Ne.symm hb)]
      simp only [hp_fs, hp_mi_get0]
      cases hdb : ds[b]? with
      | none => simp only [Option.map_none]
      | some d =>
        obtain ⟨tg, u, w⟩ := d
        simp only [Option.map_some]
        exact congrArg some (hp_fv_same (row i hkl) (fun e2 => hp_up_slot (fun e => hb (hu i ci ds b u hk (by rw [hdb, e, e2])).2))).symm
  · rw [List.getElem?_set_ne (Ne.symm hi)]
    simp only [hp_W, hp_mi_get0]
    cases hs' : S[i]? with
    | none => simp only [Option.map_none]
    | some z =>
      have hil := (List.getElem?_eq_some_iff.mp hs').1
      simp only [Option.map_some]
      congr 2
      cases z with
      | inr a => simp only [hp_E, hp_A, hp_ldL, row i hil]
      | inl o =>
        obtain ⟨c, es⟩ := o
        simp only [hp_E]
        congr 2
        apply List.ext_getElem?
        intro b
        simp only [hp_fs, hp_mi_get0]
        cases hdb : es[b]? with
        | none => simp only [Option.map_none]
        | some d =>
          obtain ⟨tg, u, w⟩ := d
          simp only [Option.map_some]
          exact congrArg some (hp_fv_same (row i hil) (fun e2 => hp_up_slot (fun e => hi (hu i c es b u hs' (by rw [hdb, e, e2])).1))).symm
theorem hp_W_ast {S : List hp_S} {cs : Nat → ClassId} {ad : Nat → Nat} {h : hp_H} {k t n j : Nat} (v : Int32) (hk : S[k]? = some (.inr (t, n))) (ht : t ≠ 1) (h9 : k ≠ hp_V) :
    (hp_W S cs ad h).set k (ad k, .inl (cs t, n, .inl (upd (fun i => h k i) j v))) = hp_W S cs ad (hp_up h k j v) := by
  rw [hp_W_set (h' := hp_up h k j v) (x' := .inr (t, n)) hk ?_ (fun i _ hi => hp_up_row hi) (hp_up_row (Ne.symm h9)), hp_set_self hk]
  rw [← hp_up_fn]
  simp only [hp_E, hp_A]
theorem hp_W_last {S : List hp_S} {cs : Nat → ClassId} {ad : Nat → Nat} {h : hp_H} {k n j : Nat} (v : Int64) (hk : S[k]? = some (.inr (1, n))) (h9 : k ≠ hp_V) :
    (hp_W S cs ad h).set k (ad k, .inl (cs 1, n, .inr (.inl (vp_updL (fun i => hp_ldL h k i) j v)))) = hp_W S cs ad (hp_upL h k j v) := by
  rw [hp_W_set (h' := hp_upL h k j v) (x' := .inr (1, n)) hk ?_ (fun i _ hi => hp_upL_row hi) (hp_upL_row (Ne.symm h9)), hp_set_self hk]
  rw [← hp_upL_fn]
  simp only [hp_E, hp_A]
theorem hp_W_cp {S : List hp_S} {cs : Nat → ClassId} {ad : Nat → Nat} {h : hp_H} {k0 k t n sp dp m : Nat} (hk : S[k]? = some (.inr (t, n))) (ht : t ≠ 1) (h9 : k ≠ hp_V) :
    (hp_W S cs ad h).set k (ad k, .inl (cs t, n, .inl (va_cpy (fun i => h k0 i) (fun i => h k i) sp dp m))) = hp_W S cs ad (hp_cp h k0 k sp dp m) := by
  rw [hp_W_set (h' := hp_cp h k0 k sp dp m) (x' := .inr (t, n)) hk ?_ (fun i _ hi => by funext b; simp [hp_cp, hi]) (by funext b; simp [hp_cp, Ne.symm h9]), hp_set_self hk]
  simp only [hp_E, hp_A, hp_cp]
  simp
