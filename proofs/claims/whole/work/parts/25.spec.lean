/-! ===== the search, as a function of what was told ===== -/
noncomputable def cif {α : Type} (c : Prop) (a b : α) : α := @ite α c (Classical.propDecidable c) a b
theorem cif_t {α : Type} {c : Prop} {a b : α} (h : c) : cif c a b = a := @if_pos c (Classical.propDecidable c) h α a b
theorem cif_f {α : Type} {c : Prop} {a b : α} (h : ¬ c) : cif c a b = b := @if_neg c (Classical.propDecidable c) h α a b
def fl {α : Type} (f : Nat → List α) (i : Nat) : Nat → List α
  | 0 => []
  | k + 1 => f i ++ fl f (i + 1) k
theorem fl_s {α : Type} {f : Nat → List α} {i n : Nat} (h : i < n) : fl f i (n - i) = f i ++ fl f (i + 1) (n - (i + 1)) := by
  obtain ⟨k, rfl⟩ : ∃ k, n = i + (k + 1) := ⟨n - i - 1, by omega⟩
  rw [show i + (k + 1) - i = k + 1 by omega, show i + (k + 1) - (i + 1) = k by omega]
  rfl
theorem fl_0 {α : Type} {f : Nat → List α} {i n : Nat} (h : n ≤ i) : fl f i (n - i) = [] := by
  rw [show n - i = 0 by omega]; rfl
/-- how many members of a role stand at a place -/
def hm (d : Nat → Nat) (r pl : Nat) : Nat → Nat
  | 0 => 0
  | n + 1 => hm d r pl n + (if d (6 + 4 * (3 * r + n)) = pl then 1 else 0)
/-- one expression's value, from a row and the values of those before it -/
noncomputable def ev1 (p : hp_H) (d : Nat → Nat) (ro me : Int32) (t : Nat → Int32) (e : Nat) : Int32 :=
  match nt (p 13 e) with
  | 0 => p 14 e
  | 1 => nI (d (nt (p 14 e)))
  | 2 => cif (ro = -1 ∨ ¬ p 14 e < p 5 (nt ro)) (nI 0) (nI (d (7 + 4 * (3 * nt ro + nt me) + nt (p 14 e))))
  | 3 => cif (ro = -1) (nI 0) me
  | 4 => nI (hm d (nt (p 14 e)) (nt (p 15 e)) (nt (p 4 (nt (p 14 e)))))
  | 5 => nI (d (42 + 4 * nt (p 14 e)))
  | 6 => nI (d (7 + 4 * (3 * nt (p 14 e) + nt (p 15 e)) + nt (p 16 e)))
  | 7 => t (nt (p 14 e)) + t (nt (p 15 e))
  | 8 => t (nt (p 14 e)) - t (nt (p 15 e))
  | 9 => t (nt (p 14 e)) * t (nt (p 15 e))
  | 10 => bi (t (nt (p 14 e)) = t (nt (p 15 e)))
  | 11 => bi (¬ t (nt (p 15 e)) ≤ t (nt (p 14 e)))
  | 12 => bi (¬ t (nt (p 14 e)) = 0 ∧ ¬ t (nt (p 15 e)) = 0)
  | 13 => bi (¬ (t (nt (p 14 e)) = 0 ∧ t (nt (p 15 e)) = 0))
  | _ => bi (t (nt (p 14 e)) = 0)
noncomputable def tb (p : hp_H) (d : Nat → Nat) (ro me : Int32) : Nat → Nat → Int32
  | 0 => fun _ => 0
  | n + 1 => fun i => if i = n then ev1 p d ro me (tb p d ro me n) n else tb p d ro me n i
theorem tb_s {p : hp_H} {d : Nat → Nat} {ro me : Int32} {n i : Nat} (h : i ≠ n) : tb p d ro me (n + 1) i = tb p d ro me n i := if_neg h
theorem tb_n {p : hp_H} {d : Nat → Nat} {ro me : Int32} {n : Nat} : tb p d ro me (n + 1) n = ev1 p d ro me (tb p d ro me n) n := if_pos rfl
theorem tb_e {p : hp_H} {d : Nat → Nat} {ro me : Int32} {i : Nat} : ∀ {n : Nat}, i < n → tb p d ro me n i = tb p d ro me (i + 1) i := by
  intro n
  induction n with
  | zero => intro h; omega
  | succ n ih =>
    intro h
    by_cases e : i = n
    · rw [e]
    · rw [tb_s e]; exact ih (by omega)
/-- a step can be done -/
def cnA (p : hp_H) (d : Nat → Nat) (s i : Nat) : Prop := (nt (p 23 (4 * s + i)) = 2 → d (42 + 4 * nt (p 24 (4 * s + i))) < nt (p 10 (nt (p 24 (4 * s + i))))) ∧ (nt (p 23 (4 * s + i)) = 3 → 0 < d (42 + 4 * nt (p 24 (4 * s + i))))
def cnG (p : hp_H) (t : Nat → Int32) (s : Nat) : Prop := p 21 s = -1 ∨ ¬ t (nt (p 21 s)) = 0
def cn (p : hp_H) (d : Nat → Nat) (t : Nat → Int32) (r m s : Nat) : Prop := nt (p 19 s) = d (6 + 4 * (3 * r + m)) ∧ cnG p t s ∧ ∀ i, i < nt (p 22 s) → cnA p d s i
/-- the next letter that is like no earlier one -/
def okx (d : Nat → Nat) (c f i : Nat) : Prop := f ≤ i ∧ i < d (42 + 4 * c) ∧ rw_f d c i
noncomputable def nx (d : Nat → Nat) (c f : Nat) : Option Nat := cif (okx d c f 0) (some 0) (cif (okx d c f 1) (some 1) (cif (okx d c f 2) (some 2) none))
theorem nx_some {d : Nat → Nat} {c f i : Nat} (hl : d (42 + 4 * c) ≤ 3) (h1 : f ≤ i) (h2 : i < d (42 + 4 * c)) (h3 : rw_f d c i) (h4 : ∀ k, f ≤ k → k < i → ¬ rw_f d c k) : nx d c f = some i := by
  have no : ∀ k, k < i → ¬ okx d c f k := fun k hk z => h4 k z.1 hk z.2.2
  have yes : okx d c f i := ⟨h1, h2, h3⟩
  unfold nx
  rcases (show i = 0 ∨ i = 1 ∨ i = 2 by omega) with e | e | e <;> subst e
  · rw [cif_t yes]
  · rw [cif_f (no 0 (by omega)), cif_t yes]
  · rw [cif_f (no 0 (by omega)), cif_f (no 1 (by omega)), cif_t yes]
theorem nx_none {d : Nat → Nat} {c f : Nat} (h : ∀ k, f ≤ k → k < d (42 + 4 * c) → ¬ rw_f d c k) : nx d c f = none := by
  have no : ∀ k, ¬ okx d c f k := fun k z => h k z.1 z.2.1 z.2.2
  unfold nx
  rw [cif_f (no 0), cif_f (no 1), cif_f (no 2)]
theorem nx_get {d : Nat → Nat} {c f i : Nat} (h : nx d c f = some i) : okx d c f i ∧ i < 3 := by
  unfold nx at h
  by_cases h0 : okx d c f 0
  · rw [cif_t h0] at h; cases h; exact ⟨h0, by decide⟩
  rw [cif_f h0] at h
  by_cases h1 : okx d c f 1
  · rw [cif_t h1] at h; cases h; exact ⟨h1, by decide⟩
  rw [cif_f h1] at h
  by_cases h2 : okx d c f 2
  · rw [cif_t h2] at h; cases h; exact ⟨h2, by decide⟩
  rw [cif_f h2] at h; cases h
/-- which letters are picked, and the next picks -/
def LSe (p : hp_H) (s i : Nat) : Prop := nt (p 23 (4 * s + i)) = 3 ∧ ¬ p 11 (nt (p 24 (4 * s + i))) = 0
noncomputable def nxt (p : hp_H) (d : Nat → Nat) (s : Nat) : Nat → (Nat → Nat) → Option (Nat → Nat)
  | 0, _ => none
  | i + 1, c => cif (LSe p s i) (match nx d (nt (p 24 (4 * s + i))) (c i + 1) with
      | some n => some (va_up c i n)
      | none => nxt p d s i (va_up c i 0)) (nxt p d s i c)
noncomputable def wl (p : hp_H) (d : Nat → Nat) (s : Nat) : Nat → (Nat → Nat) → List (Nat → Nat)
  | 0, _ => []
  | f + 1, c => c :: (match nxt p d s (nt (p 22 s)) c with
      | none => []
      | some c' => wl p d s f c')
/-- the acts of a step, one by one -/
noncomputable def ac1 (p : hp_H) (d : Nat → Nat) (t : Nat → Int32) (r m s : Nat) (c : Nat → Nat) (i : Nat) (e : Nat → Nat) : Option (Nat → Nat) :=
  match nt (p 23 (4 * s + i)) with
  | 0 => cif (¬ t (nt (p 25 (4 * s + i))) < p 1 (nt (p 24 (4 * s + i))) ∧ ¬ p 2 (nt (p 24 (4 * s + i))) < t (nt (p 25 (4 * s + i)))) (some (va_up e (nt (p 24 (4 * s + i))) (nt (t (nt (p 25 (4 * s + i))))))) none
  | 1 => cif (¬ t (nt (p 25 (4 * s + i))) < p 6 (3 * r + nt (p 24 (4 * s + i))) ∧ ¬ p 7 (3 * r + nt (p 24 (4 * s + i))) < t (nt (p 25 (4 * s + i)))) (some (va_up e (7 + 4 * (3 * r + m) + nt (p 24 (4 * s + i))) (nt (t (nt (p 25 (4 * s + i))))))) none
  | 2 => cif (¬ t (nt (p 25 (4 * s + i))) < 0 ∧ ¬ nI 9 < t (nt (p 25 (4 * s + i)))) (some (rw_pt e (nt (p 24 (4 * s + i))) (nt (t (nt (p 25 (4 * s + i))))))) none
  | _ => cif (¬ nI (d (43 + 4 * nt (p 24 (4 * s + i)) + c i)) < p 6 (3 * r + nt (p 25 (4 * s + i))) ∧ ¬ p 7 (3 * r + nt (p 25 (4 * s + i))) < nI (d (43 + 4 * nt (p 24 (4 * s + i)) + c i))) (some (rw_tk (va_up e (7 + 4 * (3 * r + m) + nt (p 25 (4 * s + i))) (d (43 + 4 * nt (p 24 (4 * s + i)) + c i))) (nt (p 24 (4 * s + i))) (c i))) none
noncomputable def dn (p : hp_H) (d : Nat → Nat) (t : Nat → Int32) (r m s : Nat) (c : Nat → Nat) : Nat → Option (Nat → Nat)
  | 0 => some d
  | i + 1 => match dn p d t r m s c i with
    | none => none
    | some e => ac1 p d t r m s c i e
theorem dn_s {p : hp_H} {d : Nat → Nat} {t : Nat → Int32} {r m s : Nat} {c : Nat → Nat} {i : Nat} {e : Nat → Nat} (h : dn p d t r m s c i = some e) : dn p d t r m s c (i + 1) = ac1 p d t r m s c i e := by
  show (match dn p d t r m s c i with | none => none | some e => ac1 p d t r m s c i e) = _
  rw [h]
theorem dn_n {p : hp_H} {d : Nat → Nat} {t : Nat → Int32} {r m s : Nat} {c : Nat → Nat} {i : Nat} (h : dn p d t r m s c i = none) : ∀ n, i ≤ n → dn p d t r m s c n = none := by
  intro n
  induction n with
  | zero => intro z; rw [show i = 0 by omega] at h; exact h
  | succ n ih =>
    intro z
    rcases (show i ≤ n ∨ i = n + 1 by omega) with y | y
    · show (match dn p d t r m s c n with | none => none | some e => ac1 p d t r m s c n e) = _
      rw [ih y]
    · rw [← y]; exact h
/-- alike members stand rising -/
noncomputable def alk (p : hp_H) (e : Nat → Nat) (r : Nat) : Nat → Nat := cif (p 0 30 = 0) e (rw_ar e r (nt (p 4 r)))
noncomputable def wev (p : hp_H) (d : Nat → Nat) (t : Nat → Int32) (r m s : Nat) (c : Nat → Nat) : Int32 × Int32 × Int32 × Option (Nat → Nat) :=
  (nI r, nI m, nI s, match dn p d t r m s c (nt (p 22 s)) with
    | none => none
    | some e => some (alk p (va_up e (6 + 4 * (3 * r + m)) (nt (p 20 s))) r))
noncomputable def sev (p : hp_H) (d : Nat → Nat) (t : Nat → Int32) (r m s : Nat) : List (Int32 × Int32 × Int32 × Option (Nat → Nat)) :=
  cif (nt (p 18 s) = r ∧ cn p d t r m s) ((wl p d s 27 (fun _ => 0)).map (wev p d t r m s)) []
noncomputable def mev (p : hp_H) (d : Nat → Nat) (r m : Nat) : List (Int32 × Int32 × Int32 × Option (Nat → Nat)) :=
  fl (sev p d (tb p d (nI r) (nI m) (nt (p 0 15))) r m) 0 (nt (p 0 21) - 0)
noncomputable def rev (p : hp_H) (d : Nat → Nat) (r : Nat) : List (Int32 × Int32 × Int32 × Option (Nat → Nat)) := fl (mev p d r) 0 (nt (p 4 r) - 0)
noncomputable def le1 (d : Nat → Nat) (c i : Nat) : List (Int32 × Int32 × Int32 × Option (Nat → Nat)) := cif (rw_f d c i) [(-1, -1, -1, some (rw_tk d c i))] []
noncomputable def lev (p : hp_H) (d : Nat → Nat) (c : Nat) : List (Int32 × Int32 × Int32 × Option (Nat → Nat)) := cif (p 12 c = 0) [] (fl (le1 d c) 0 (d (42 + 4 * c) - 0))
noncomputable def evs (p : hp_H) (d : Nat → Nat) : List (Int32 × Int32 × Int32 × Option (Nat → Nat)) := fl (rev p d) 0 (nt (p 0 4) - 0) ++ fl (lev p d) 0 (nt (p 0 11) - 0)
/-- what is found: states and moves -/
def dg (g : hp_H) (s : Nat) : Nat → Nat := fun k => if k < 54 then nt (g 27 (54 * s + k)) else 0
def gN (g : hp_H) : Nat := nt (g 0 35)
def gK (g : hp_H) : Nat := nt (g 0 40)
def gE (g : hp_H) (e : Nat → Nat) (i : Nat) : Prop := i < gN g ∧ ∀ k, k < 54 → dg g i k = e k
/-- a state more -/
def gS (g : hp_H) (e : Nat → Nat) (s : Nat) : hp_H := fun a b =>
  if a = 27 ∧ 54 * gN g ≤ b ∧ b < 54 * gN g + 54 then nI (e (b - 54 * gN g))
  else if a = 28 ∧ b = gN g then nI s
  else if a = 29 ∧ b = gN g then g 0 40 - g 31 s
  else if a = 30 ∧ b = gN g then g 30 s + nI 1
  else if a = 0 ∧ b = 35 then nI (gN g + 1)
  else g a b
/-- a move more -/
def gM (g : hp_H) (to : Nat) (r m t : Int32) : hp_H := fun a b =>
  if a = 32 ∧ b = gK g then nI to
  else if a = 33 ∧ b = gK g then r
  else if a = 34 ∧ b = gK g then m
  else if a = 35 ∧ b = gK g then t
  else if a = 0 ∧ b = 40 then nI (gK g + 1)
  else g a b
noncomputable def mvg (g : hp_H) (s : Nat) (r m t : Int32) (e : Nat → Nat) : hp_H :=
  cif (gK g = 6000) (hp_up g 0 34 (nI 1)) (cif (∃ i, gE g e i) (gM g (Classical.epsilon (gE g e)) r m t) (cif (gN g = 400) (hp_up g 0 34 (nI 1)) (gM (gS g e s) (gN g) r m t)))
noncomputable def flt (g : hp_H) (s : Nat) (r m t : Int32) : hp_H := cif (g 0 46 = 0) (hp_up (hp_up (hp_up (hp_up (hp_up g 0 46 (nI 1)) 0 47 (nI s)) 0 48 r) 0 49 m) 0 50 t) g
noncomputable def pr (s : Nat) (g : hp_H) (x : Int32 × Int32 × Int32 × Option (Nat → Nat)) : hp_H :=
  cif (g 0 34 = 0) (match x.2.2.2 with
    | none => flt g s x.1 x.2.1 x.2.2.1
    | some e => mvg g s x.1 x.2.1 x.2.2.1 e) g
theorem pr_sp {s : Nat} {g : hp_H} (h : ¬ g 0 34 = 0) : ∀ l : List (Int32 × Int32 × Int32 × Option (Nat → Nat)), List.foldl (pr s) g l = g := by
  intro l
  induction l with
  | nil => rfl
  | cons x l ih =>
    rw [List.foldl_cons]
    have : pr s g x = g := by unfold pr; rw [cif_f h]
    rw [this]; exact ih
theorem pr_m {s : Nat} {g : hp_H} {r m t : Int32} {e : Nat → Nat} (h : g 0 34 = 0) : pr s g (r, m, t, some e) = mvg g s r m t e := by unfold pr; rw [cif_t h]
theorem pr_f {s : Nat} {g : hp_H} {r m t : Int32} (h : g 0 34 = 0) : pr s g (r, m, t, none) = flt g s r m t := by unfold pr; rw [cif_t h]
/-- the first row -/
def d0 (p : hp_H) : Nat → Nat := fun k => if k < nt (p 0 0) then nt (p 3 k) else if 6 ≤ k ∧ k < 42 ∧ (k - 6) / 12 < nt (p 0 4) ∧ (k - 6) % 12 / 4 < nt (p 4 ((k - 6) / 12)) ∧ 1 ≤ (k - 6) % 4 ∧ (k - 6) % 4 ≤ nt (p 5 ((k - 6) / 12)) then nt (p 8 (3 * ((k - 6) / 12) + (k - 6) % 4 - 1)) else 0
def g0 (p : hp_H) : hp_H := fun a b => if a = 27 ∧ b < 54 then nI (d0 p b) else if a = 28 ∧ b = 0 then -1 else if a = 29 ∧ b = 0 then -1 else if a = 0 ∧ b = 35 then nI 1 else nI 0
def gB (g : hp_H) (s : Nat) : hp_H := hp_up g 31 s (g 0 40)
noncomputable def sr (p : hp_H) : Nat → Nat → hp_H → hp_H
  | 0, _, g => g
  | f + 1, s, g => cif (s < gN g ∧ g 0 34 = 0) (sr p f (s + 1) (gB (List.foldl (pr s) (gB g s) (evs p (dg g s))) (s + 1))) g
noncomputable def srch (p : hp_H) : hp_H := sr p 400 0 (g0 p)
