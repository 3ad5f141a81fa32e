/-! ===== numbers of classes ===== -/
theorem least {P : Nat → Prop} : ∀ n, P n → ∃ t, t ≤ n ∧ P t ∧ ∀ u, u < t → ¬ P u := by
  intro n
  induction n using Nat.strongRecOn with
  | _ n ih =>
    intro h
    by_cases c : ∃ u, u < n ∧ P u
    · obtain ⟨u, h1, h2⟩ := c
      obtain ⟨t, a, b, c⟩ := ih u h1 h2
      exact ⟨t, by omega, b, c⟩
    · exact ⟨n, Nat.le_refl _, h, fun u hu z => c ⟨u, hu, z⟩⟩
def EQV (E : Nat → Nat → Prop) : Prop := (∀ s, E s s) ∧ (∀ s t, E s t → E t s) ∧ ∀ s t u, E s t → E t u → E s u
section
variable {E : Nat → Nat → Prop} {s t u N : Nat}
theorem cL_s (h : EQV E) (s : Nat) : IL E s (cL E s) := Classical.epsilon_spec (p := IL E s) (by
  obtain ⟨t, a, b, c⟩ := least (P := fun t => E t s) s (h.1 s)
  exact ⟨t, a, b, c⟩)
theorem IL_u (h : IL E s t) (k : IL E s u) : t = u := by
  rcases Nat.lt_trichotomy t u with z | z | z
  · exact absurd h.2.1 (k.2.2 t z)
  · exact z
  · exact absurd k.2.1 (h.2.2 u z)
theorem cL_u (h : EQV E) (i : IL E s t) : cL E s = t := IL_u (cL_s h s) i
theorem cL_e (h : EQV E) (e : E s t) : cL E t = cL E s := by
  have i := cL_s h s
  refine cL_u h ⟨?_, h.2.2 _ _ _ i.2.1 e, fun v hv z => i.2.2 v hv (h.2.2 _ _ _ z (h.2.1 _ _ e))⟩
  rcases Nat.lt_or_ge t (cL E s) with z | z
  · exact absurd (h.2.1 _ _ e) (i.2.2 t z)
  · exact z
theorem cL_i (h : EQV E) : cL E (cL E s) = cL E s := (cL_e h (cL_s h s).2.1).symm
def isL (E : Nat → Nat → Prop) (t : Nat) : Prop := ¬ ∃ u, u < t ∧ E u t
theorem isL_c (h : EQV E) (l : isL E t) : cL E t = t := cL_u h ⟨Nat.le_refl _, h.1 t, fun u hu z => l ⟨u, hu, z⟩⟩
theorem cL_l (h : EQV E) (s : Nat) : isL E (cL E s) := by
  rintro ⟨u, h1, h2⟩
  exact (cL_s h s).2.2 u h1 (h.2.2 _ _ _ h2 (cL_s h s).2.1)
theorem cN_l (l : isL E t) : cN E (t + 1) = cN E t + 1 := by
  show cN E t + cif (∃ u, u < t ∧ E u t) 0 1 = _
  rw [cif_f l]
theorem cN_o (l : ¬ isL E t) : cN E (t + 1) = cN E t := by
  show cN E t + cif (∃ u, u < t ∧ E u t) 0 1 = _
  rw [cif_t (Classical.not_not.mp l)]; rfl
theorem cN_1 : cN E s ≤ cN E (s + 1) ∧ cN E (s + 1) ≤ cN E s + 1 := by
  by_cases l : isL E s
  · rw [cN_l l]; omega
  · rw [cN_o l]; omega
theorem cN_m : ∀ {t : Nat}, s ≤ t → cN E s ≤ cN E t := by
  intro t
  induction t with
  | zero => intro h; rw [show s = 0 by omega]; exact Nat.le_refl _
  | succ t ih =>
    intro h
    rcases (show s ≤ t ∨ s = t + 1 by omega) with z | z
    · exact Nat.le_trans (ih z) cN_1.1
    · rw [z]; exact Nat.le_refl _
theorem cN_le : ∀ s : Nat, cN E s ≤ s := by
  intro s
  induction s with
  | zero => exact Nat.le_refl _
  | succ s ih => have := (cN_1 (E := E) (s := s)).2; omega
theorem cN_p (hN : 0 < N) : 1 ≤ cN E N := by
  have : cN E 1 = 1 := by
    have := cN_l (E := E) (t := 0) (fun ⟨u, hu, _⟩ => by omega)
    rw [this]; rfl
  have := cN_m (E := E) (s := 1) (t := N) (by omega)
  omega
theorem lt_l (l : isL E t) (h : t < u) : cN E t < cN E u := by
  have := cN_m (E := E) (s := t + 1) (t := u) h
  rw [cN_l l] at this; omega
theorem inj_l (l : isL E t) (l' : isL E u) (e : cN E t = cN E u) : t = u := by
  rcases Nat.lt_trichotomy t u with z | z | z
  · have := lt_l l z; omega
  · exact z
  · have := lt_l l' z; omega
theorem cC_lt (h : EQV E) (hs : s < N) : cC E s < cN E N := lt_l (cL_l h s) (by have := (cL_s h s).1; omega)
theorem cC_l (h : EQV E) (l : isL E s) : cC E s = cN E s := by unfold cC; rw [isL_c h l]
theorem cC_e (h : EQV E) (e : E t s) : cC E s = cC E t := by unfold cC; rw [cL_e h e]
/-- a leader of the number k -/
theorem ld (k : Nat) : ∀ N, k < cN E N → ∃ t, t < N ∧ isL E t ∧ cN E t = k := by
  intro N
  induction N with
  | zero => intro h; exact absurd h (by show ¬ k < 0; omega)
  | succ N ih =>
    intro h
    by_cases c : k < cN E N
    · obtain ⟨t, a, b, d⟩ := ih c
      exact ⟨t, by omega, b, d⟩
    · have := (cN_1 (E := E) (s := N)).2
      have l : isL E N := by
        apply Classical.byContradiction
        intro z
        rw [cN_o z] at h; omega
      exact ⟨N, by omega, l, by omega⟩
end
theorem E0_q {p g m : hp_H} : EQV (E0 p g m) := ⟨fun s k _ => rfl, fun s t h k hk => (h k hk).symm, fun s t u h h' k hk => (h k hk).trans (h' k hk)⟩
theorem E1_q {g : hp_H} {c : Nat → Nat} : EQV (E1 g c) := ⟨fun s => ⟨rfl, fun x => Iff.rfl⟩, fun s t h => ⟨h.1.symm, fun x => (h.2 x).symm⟩, fun s t u h h' => ⟨h.1.trans h'.1, fun x => (h.2 x).trans (h'.2 x)⟩⟩
theorem dvl_s {g : hp_H} {f : Nat} {c : Nat → Nat} {n : Nat} : dvl g (f + 1) c n = cif (n < cN (E1 g c) (gN g)) (dvl g f (cC (E1 g c)) (cN (E1 g c) (gN g))) (cC (E1 g c), cN (E1 g c) (gN g)) := rfl
/-- only the numbers of states count -/
theorem E1_cg {p g : hp_H} {c c' : Nat → Nat} {s t : Nat} (f : FS p g (gN g)) (h : ∀ s, s < gN g → c s = c' s) (hs : s < gN g) (ht : t < gN g) : E1 g c s t ↔ E1 g c' s t := by
  have q : ∀ s, s < gN g → ∀ x, (∃ u, mvT g s u ∧ c u = x) ↔ ∃ u, mvT g s u ∧ c' u = x := by
    intro s hs x
    obtain ⟨l1, l2, l3, l4, l5⟩ := f.r hs
    refine ⟨fun ⟨u, a, b⟩ => ⟨u, a, ?_⟩, fun ⟨u, a, b⟩ => ⟨u, a, ?_⟩⟩
    · obtain ⟨i, i1, i2, i3⟩ := a
      rw [← b]; exact (h u (by rw [← i3]; exact (f.1.2.2.2.2 i (by omega)).2.1)).symm
    · obtain ⟨i, i1, i2, i3⟩ := a
      rw [← b]; exact h u (by rw [← i3]; exact (f.1.2.2.2.2 i (by omega)).2.1)
  unfold E1
  rw [h s hs, h t ht]
  exact ⟨fun z => ⟨z.1, fun x => ((q s hs x).symm.trans (z.2 x)).trans (q t ht x)⟩, fun z => ⟨z.1, fun x => ((q s hs x).trans (z.2 x)).trans (q t ht x).symm⟩⟩
/-! ===== bits ===== -/
def bt (x : Int32) (j : Nat) : Prop := x.toBitVec.getLsbD j = true
def bL (x : Int64) (j : Nat) : Prop := x.toBitVec.getLsbD j = true
theorem bt_x {x y : Int32} (h : ∀ j, j < 32 → (bt x j ↔ bt y j)) : x = y := by
  apply Int32.toBitVec_inj.mp
  apply BitVec.eq_of_getLsbD_eq
  intro i hi
  exact Bool.eq_iff_iff.mpr (h i hi)
theorem bL_x {x y : Int64} (h : ∀ j, j < 64 → (bL x j ↔ bL y j)) : x = y := by
  apply Int64.toBitVec_inj.mp
  apply BitVec.eq_of_getLsbD_eq
  intro i hi
  exact Bool.eq_iff_iff.mpr (h i hi)
theorem bt_o {x y : Int32} {j : Nat} : bt (x ||| y) j ↔ bt x j ∨ bt y j := by
  unfold bt
  rw [Int32.toBitVec_or, BitVec.getLsbD_or, Bool.or_eq_true]
theorem bL_o {x y : Int64} {j : Nat} : bL (x ||| y) j ↔ bL x j ∨ bL y j := by
  unfold bL
  rw [Int64.toBitVec_or, BitVec.getLsbD_or, Bool.or_eq_true]
theorem bt_a {x y : Int32} {j : Nat} : bt (x &&& y) j ↔ bt x j ∧ bt y j := by
  unfold bt
  rw [Int32.toBitVec_and, BitVec.getLsbD_and, Bool.and_eq_true]
theorem bt_0 {j : Nat} : ¬ bt (nI 0) j := by
  unfold bt
  show ¬ (0#32).getLsbD j = true
  rw [BitVec.getLsbD_zero]; decide
theorem bL_0 {j : Nat} : ¬ bL 0 j := by
  unfold bL
  show ¬ (0#64).getLsbD j = true
  rw [BitVec.getLsbD_zero]; decide
theorem bt_1' : ∀ k, k < 32 → ∀ j, j < 32 → (hp_shl (nI 1) (nI k)).toBitVec.getLsbD j = decide (j = k) := by decide +kernel
theorem bL_1' : ∀ k, k < 64 → ∀ j, j < 64 → (hp_shlL 1 (nI k)).toBitVec.getLsbD j = decide (j = k) := by decide +kernel
theorem bt_1 {k j : Nat} (hk : k < 32) (hj : j < 32) : bt (hp_shl (nI 1) (nI k)) j ↔ j = k := by
  unfold bt
  rw [bt_1' k hk j hj, decide_eq_true_eq]
theorem bL_1 {k j : Nat} (hk : k < 64) (hj : j < 64) : bL (hp_shlL 1 (nI k)) j ↔ j = k := by
  unfold bL
  rw [bL_1' k hk j hj, decide_eq_true_eq]
