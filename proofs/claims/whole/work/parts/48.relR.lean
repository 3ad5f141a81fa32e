/-! ===== classes, as a function; the relation of the two heaps ===== -/
noncomputable def cN (E : Nat → Nat → Prop) : Nat → Nat
  | 0 => 0
  | s + 1 => cN E s + cif (∃ t, t < s ∧ E t s) 0 1
def IL (E : Nat → Nat → Prop) (s t : Nat) : Prop := t ≤ s ∧ E t s ∧ ∀ u, u < t → ¬ E u s
noncomputable def cL (E : Nat → Nat → Prop) (s : Nat) : Nat := Classical.epsilon (IL E s)
noncomputable def cC (E : Nat → Nat → Prop) (s : Nat) : Nat := cN E (cL E s)
def mvT (g : hp_H) (s t : Nat) : Prop := ∃ i, nt (g 31 s) ≤ i ∧ i < nt (g 31 (s + 1)) ∧ nt (g 32 i) = t
/-- what an expression of no member tells in a state -/
noncomputable def vl (p g : hp_H) (s e : Nat) : Int32 := tv p (dg g s) (-1) (-1) e
def E0 (p g m : hp_H) (s t : Nat) : Prop := ∀ k, k < nt (m 0 31) → vl p g s (nt (m 26 k)) = vl p g t (nt (m 26 k))
def E1 (g : hp_H) (c : Nat → Nat) (s t : Nat) : Prop := c s = c t ∧ ∀ x, (∃ u, mvT g s u ∧ c u = x) ↔ (∃ u, mvT g t u ∧ c u = x)
noncomputable def dvl (g : hp_H) : Nat → (Nat → Nat) → Nat → (Nat → Nat) × Nat
  | 0, c, n => (c, n)
  | f + 1, c, n => cif (n < cN (E1 g c) (gN g)) (dvl g f (cC (E1 g c)) (cN (E1 g c) (gN g))) (cC (E1 g c), cN (E1 g c) (gN g))
noncomputable def DIVf (p g m : hp_H) : (Nat → Nat) × Nat := dvl g 401 (cC (E0 p g m)) (cN (E0 p g m) (gN g))
def DVm (p b m : hp_H) : Prop := b 64 1 = nI (DIVf p (srch p) m).2 ∧ ∀ s, s < gN (srch p) → b (65 + nt (b hp_V 0)) s = nI ((DIVf p (srch p) m).1 s)
def SRd (p : hp_H) (q : Nat) (b m : hp_H) : Prop := VP p ∧ PV p m ∧ FIT p ∧ AB p (srch p) q b ∧ AM p (srch p) q m ∧ (srch p 0 34 = 0 → gN (srch p) < q) ∧ m 0 33 = nI 1 ∧ m 0 34 = srch p 0 34 ∧ (b 64 11 = nI 0 ∨ (b 64 11 = nI 1 ∧ srch p 0 34 = 0 ∧ DVm p b m))
def R (b m : hp_H) : Prop := T0 b m ∧ ((GR0 b m ∧ b 64 11 = nI 0) ∨ ∃ p q, SRd p q b m)
def FRb (b b' : hp_H) : Prop := ∀ k, k ≠ 16 → k ≠ 21 → k ≠ 52 → (k < 53 ∨ 63 < k) → b' k = b k
def FRm (m m' : hp_H) : Prop := ∀ k, k < 36 → m' k = m k
theorem FRb.rf {b : hp_H} : FRb b b := fun _ _ _ _ _ => rfl
theorem FRm.rf {m : hp_H} : FRm m m := fun _ _ => rfl
theorem FRb.tr {a b c : hp_H} (h : FRb a b) (k : FRb b c) : FRb a c := fun x h0 h1 h2 h3 => (k x h0 h1 h2 h3).trans (h x h0 h1 h2 h3)
theorem FRm.tr {a b c : hp_H} (h : FRm a b) (k : FRm b c) : FRm a c := fun x h0 => (k x h0).trans (h x h0)
theorem FRb.pb {b b' : hp_H} (f : FRb b b') : PB b b' := by
  have g : ∀ k, k ≠ 16 → k ≠ 21 → k ≠ 52 → (k < 53 ∨ 63 < k) → b' k = b k := f
  exact ⟨fun k hk => by unfold PBc at hk; exact g k (by omega) (by omega) (by omega) (by omega), by rw [g 3 (by decide) (by decide) (by decide) (by decide)], by rw [g 12 (by decide) (by decide) (by decide) (by decide)], by rw [g 1 (by decide) (by decide) (by decide) (by decide)], by rw [g 15 (by decide) (by decide) (by decide) (by decide)], by rw [g 23 (by decide) (by decide) (by decide) (by decide)], by rw [g 1 (by decide) (by decide) (by decide) (by decide)], by rw [g 2 (by decide) (by decide) (by decide) (by decide)], by rw [g 7 (by decide) (by decide) (by decide) (by decide)], by rw [g 64 (by decide) (by decide) (by decide) (by decide)], by rw [g 15 (by decide) (by decide) (by decide) (by decide)]⟩
theorem FRm.pm {m m' : hp_H} (f : FRm m m') : PM m m' := ⟨fun k _ h2 => f k (by omega), by rw [f 0 (by decide)], by rw [f 0 (by decide)], by rw [f 0 (by decide)], by rw [f 0 (by decide)], by rw [f 0 (by decide)], by rw [f 0 (by decide)], by rw [f 0 (by decide)]⟩
theorem hV : hp_V = 999 := rfl
theorem T0.fr {b b' m m' : hp_H} (fb : FRb b b') (fm : FRm m m') (t : T0 b m) : T0 b' m' := t.cg fb.pb fm.pm (by rw [fb hp_V (by decide) (by decide) (by decide) (by decide)]) (by rw [fb hp_V (by decide) (by decide) (by decide) (by decide)])
theorem DVm.fr {p b b' m m' : hp_H} (f64 : b' 64 1 = b 64 1) (f65 : b' 65 = b 65) (f68 : b' 68 = b 68) (fv : b' hp_V = b hp_V) (d : DV0 b) (fm : m' 0 31 = m 0 31) (fm' : m' 26 = m 26) (h : DVm p b m) : DVm p b' m' := by
  have e0 : E0 p (srch p) m' = E0 p (srch p) m := by funext s t; unfold E0; rw [fm, fm']
  have ed : DIVf p (srch p) m' = DIVf p (srch p) m := by unfold DIVf; rw [e0]
  unfold DVm
  rw [ed, f64, fv]
  refine ⟨h.1, fun s hs => ?_⟩
  have := h.2 s hs
  rcases d with ⟨q, _⟩ | ⟨q, _⟩
  · rw [q, nt_nI (by decide)] at this ⊢
    rw [show 65 + 0 = 65 by rfl] at this ⊢; rw [f65]; exact this
  · rw [q, nt_nI (by decide)] at this ⊢
    rw [show 65 + 3 = 68 by rfl] at this ⊢; rw [f68]; exact this
theorem SRd.fr {p b b' m m' : hp_H} {q : Nat} (fb : FRb b b') (fm : FRm m m') (d : DV0 b) (h : SRd p q b m) : SRd p q b' m' := by
  obtain ⟨v, pv, ft, ab, am, hq, e33, e34, dv⟩ := h
  refine ⟨v, ⟨fun k h1 h2 => by rw [fm k (by omega)]; exact pv.1 k h1 h2, by rw [fm 0 (by decide)]; exact pv.2⟩, ft, ab.fs (fun k h1 h2 => fb k (by omega) (by omega) (by omega) (by omega)), am.fs (fm 0 (by decide)) (fun k h1 h2 => fm k (by omega)), hq, by rw [fm 0 (by decide)]; exact e33, by rw [fm 0 (by decide)]; exact e34, ?_⟩
  rw [fb 64 (by decide) (by decide) (by decide) (by decide)]
  rcases dv with dv | ⟨d1, d2, d3⟩
  · exact Or.inl dv
  · exact Or.inr ⟨d1, d2, d3.fr (by rw [fb 64 (by decide) (by decide) (by decide) (by decide)]) (fb 65 (by decide) (by decide) (by decide) (by decide)) (fb 68 (by decide) (by decide) (by decide) (by decide)) (fb hp_V (by decide) (by decide) (by decide) (by decide)) d (by rw [fm 0 (by decide)]) (fm 26 (by decide))⟩
theorem R.fr {b b' m m' : hp_H} (fb : FRb b b') (fm : FRm m m') (h : R b m) : R b' m' := by
  refine ⟨h.1.fr fb fm, ?_⟩
  rcases h.2 with ⟨g, z⟩ | ⟨p, q, s⟩
  · left
    unfold GR0 at *
    rw [fb 35 (by decide) (by decide) (by decide) (by decide), fb 64 (by decide) (by decide) (by decide) (by decide), fm 0 (by decide)]
    exact ⟨g, z⟩
  · exact Or.inr ⟨p, q, s.fr fb fm h.1.2.2.2.2⟩
theorem TT.r {b m b' m' : hp_H} (h : R b m) (t : TT b m b' m') : R b' m' := by
  rcases t with ⟨e1, e2⟩ | t
  · rw [e1, e2]; exact h
  · exact ⟨t.1, Or.inl ⟨t.2.1, t.2.2⟩⟩
/-- a search is there, and it isn't spent -/
def SRu (p : hp_H) (q : Nat) (b m : hp_H) : Prop := SRd p q b m ∧ srch p 0 34 = 0
def Ub (b : hp_H) : Prop := ¬ b 35 0 = 0 ∧ b 35 1 = 0
def Um (m : hp_H) : Prop := ¬ m 0 33 = 0 ∧ m 0 34 = 0
theorem R.c {b m : hp_H} (h : R b m) : (¬ Ub b ∧ ¬ Um m) ∨ (Ub b ∧ Um m ∧ ∃ p q, SRu p q b m) := by
  rcases h.2 with ⟨⟨g1, g2, g3, g4, g5, g6⟩, z⟩ | ⟨p, q, s⟩
  · exact Or.inl ⟨fun u => u.1 g1, fun u => u.1 g4⟩
  · have s' := s
    obtain ⟨v, pv, ft, ab, am, hq, e33, e34, dv⟩ := s
    by_cases c : srch p 0 34 = 0
    · exact Or.inr ⟨⟨by rw [ab.2.1]; decide, by rw [ab.2.2.1]; exact c⟩, ⟨by rw [e33]; decide, by rw [e34]; exact c⟩, p, q, s', c⟩
    · exact Or.inl ⟨fun u => c (by rw [← ab.2.2.1]; exact u.2), fun u => c (by rw [← e34]; exact u.2)⟩
section
variable {b m : hp_H} {a : Int32} {Q : Int32 → Prop} {A B : Prop}
theorem b_us (u : Ub b) (k : Q (nI 1)) : q_X2_isUsable b Q := ⟨fun z => absurd z u.1, fun _ => ⟨fun _ => k, fun z => absurd u.2 z⟩⟩
theorem b_nus (u : ¬ Ub b) (k : Q (nI 0)) : q_X2_isUsable b Q := ⟨fun _ => k, fun z => ⟨fun z2 => absurd ⟨z, z2⟩ u, fun _ => k⟩⟩
theorem m_us (u : Um m) (k : Q (nI 1)) : q_X12_hasStates m Q := ⟨fun z => absurd z u.1, fun _ => ⟨fun _ => k, fun z => absurd u.2 z⟩⟩
theorem m_nus (u : ¬ Um m) (k : Q (nI 0)) : q_X12_hasStates m Q := ⟨fun _ => k, fun z => ⟨fun z2 => absurd ⟨z, z2⟩ u, fun _ => k⟩⟩
def inN (N : Nat) (a : Int32) : Prop := ∃ s, s < N ∧ a = nI s
theorem inN_i {N : Nat} (hN : N < 2 ^ 31) : (¬ a < 0 ∧ ¬ nI N ≤ a) ↔ inN N a := by
  refine ⟨fun h => ?_, fun ⟨s, h1, h2⟩ => ?_⟩
  · obtain ⟨k, h1, h2⟩ := nu_get (nI_val hN) hN h
    rw [nt_nI hN] at h1
    exact ⟨k, h1, h2⟩
  · rw [h2]
    exact ⟨nI_pos (by omega), by rw [nI_leI hN (by omega)]; omega⟩
theorem two_l {N : Nat} {x : Int32} (e : x = nI N) (hN : N < 2 ^ 31) (h1 : inN N a → Q (nI 1)) (h0 : ¬ inN N a → Q (nI 0)) : (a < 0 → Q (nI 0)) ∧ (¬ a < 0 → (x ≤ a → Q (nI 0)) ∧ (¬ x ≤ a → Q (nI 1))) := by
  rw [e]
  exact ⟨fun z => h0 (fun y => ((inN_i hN).mpr y).1 z), fun z => ⟨fun z2 => h0 (fun y => ((inN_i hN).mpr y).2 z2), fun z2 => h1 ((inN_i hN).mp ⟨z, z2⟩)⟩⟩
theorem m_in0 {N : Nat} {x : Int32} (e : x = nI N) (hN : N < 2 ^ 31) (h1 : inN N a → Q (nI 1)) (h0 : ¬ inN N a → Q (nI 0)) : q_X12_in a (nI 0) (x - nI 1) Q := by
  rw [i_X12_in, e, bi_in (nI_val hN) hN]
  unfold bi
  split
  · next h => exact h1 ((inN_i hN).mp h)
  · next h => exact h0 (fun y => h ((inN_i hN).mpr y))
theorem bz1 : hp_bz (nI 1) := Or.inr rfl
theorem bz0 : hp_bz (nI 0) := Or.inl rfl
theorem b_has {N : Nat} (u : Ub b) (e : b 35 2 = nI N) (hN : N < 2 ^ 31) (h1 : inN N a → Q (nI 1)) (h0 : ¬ inN N a → Q (nI 0)) : q_X2_has b a Q := by
  unfold q_X2_has
  exact b_us u (br1 (two_l e hN h1 h0))
theorem b_nhas (u : ¬ Ub b) (h0 : Q (nI 0)) : q_X2_has b a Q := by
  unfold q_X2_has
  exact b_nus u (br00 h0)
theorem m_isSt {N : Nat} (e : m 0 35 = nI N) (hN : N < 2 ^ 31) (h1 : inN N a → Q (nI 1)) (h0 : ¬ inN N a → Q (nI 0)) : q_X12_isState m a Q := by
  unfold q_X12_isState
  exact m_in0 e hN (fun z => ⟨bz1, h1 z⟩) (fun z => ⟨bz0, h0 z⟩)
theorem b_ex {N : Nat} (e : b 15 1 = nI N) (hN : N < 2 ^ 31) (h1 : inN N a → Q (nI 1)) (h0 : ¬ inN N a → Q (nI 0)) : q_X1_has b a Q := two_l e hN h1 h0
theorem b_rl {N : Nat} (e : b 12 1 = nI N) (hN : N < 2 ^ 31) (h1 : inN N a → Q (nI 1)) (h0 : ¬ inN N a → Q (nI 0)) : q_X6_has b a Q := two_l e hN h1 h0
theorem b_ch {N : Nat} (e : b 1 8 = nI N) (hN : N < 2 ^ 31) (h1 : inN N a → Q (nI 1)) (h0 : ¬ inN N a → Q (nI 0)) : q_X4_hasChannel b a Q := two_l e hN h1 h0
theorem m_ex {N : Nat} (e : m 0 15 = nI N) (hN : N < 2 ^ 31) (h1 : inN N a → Q (nI 1)) (h0 : ¬ inN N a → Q (nI 0)) : q_X12_isExpr m a Q := by
  unfold q_X12_isExpr
  exact m_in0 e hN (fun z => ⟨bz1, h1 z⟩) (fun z => ⟨bz0, h0 z⟩)
theorem m_rl {N : Nat} (e : m 0 4 = nI N) (hN : N < 2 ^ 31) (h1 : inN N a → Q (nI 1)) (h0 : ¬ inN N a → Q (nI 0)) : q_X12_isRole m a Q := by
  unfold q_X12_isRole
  exact m_in0 e hN (fun z => ⟨bz1, h1 z⟩) (fun z => ⟨bz0, h0 z⟩)
theorem m_ch {N : Nat} (e : m 0 11 = nI N) (hN : N < 2 ^ 31) (h1 : inN N a → Q (nI 1)) (h0 : ¬ inN N a → Q (nI 0)) : q_X12_isChannel m a Q := by
  unfold q_X12_isChannel
  exact m_in0 e hN (fun z => ⟨bz1, h1 z⟩) (fun z => ⟨bz0, h0 z⟩)
end
/-- the counts, on both sides -/
theorem T0.n {b m : hp_H} (t : T0 b m) : (b 15 1 = nI (nt (m 0 15)) ∧ m 0 15 = nI (nt (m 0 15)) ∧ nt (m 0 15) ≤ 80) ∧ (b 12 1 = nI (nt (m 0 4)) ∧ m 0 4 = nI (nt (m 0 4)) ∧ nt (m 0 4) ≤ 3) ∧ (b 1 8 = nI (nt (m 0 11)) ∧ m 0 11 = nI (nt (m 0 11)) ∧ nt (m 0 11) ≤ 3) ∧ b 13 = m 4 ∧ b 8 = m 5 ∧ b 22 = m 17 := by
  obtain ⟨⟨vs, vr, vc, vx, vt, v30⟩, ⟨ep, ef, ee, en⟩, eo, vo, dv⟩ := t
  obtain ⟨e4, e5, e6, e13, e8, e9, e10, e11, e32, e33, e34, e17, e18, e19, e20, e22, -⟩ := ep
  obtain ⟨f3, f12, f1, f15, -⟩ := ef
  exact ⟨⟨by rw [f15]; exact vx.1.1, vx.1.1, vx.1.2⟩, ⟨by rw [f12]; exact vr.1.1, vr.1.1, vr.1.2⟩, ⟨by rw [f1]; exact vc.1.1, vc.1.1, vc.1.2⟩, e13, e8, e22⟩
def Mem (m : hp_H) (a2 a3 : Int32) : Prop := ∃ r i, r < nt (m 0 4) ∧ i < nt (m 4 r) ∧ a2 = nI r ∧ a3 = nI i
theorem b_mem {b m : hp_H} {a2 a3 : Int32} {Q : Int32 → Prop} (t : T0 b m) (h1 : Mem m a2 a3 → Q (nI 1)) (h0 : ¬ Mem m a2 a3 → Q (nI 0)) : q_X6_hasMember b a2 a3 Q := by
  obtain ⟨-, ⟨n1, n2, n3⟩, -, e13, -⟩ := t.n
  unfold q_X6_hasMember
  refine b_rl n1 (by omega) (fun z => br1 ?_) (fun z => br00 (h0 (fun ⟨r, i, y1, y2, y3, y4⟩ => z ⟨r, y1, y3⟩)))
  obtain ⟨r, hr, rfl⟩ := z
  have q := (t.1.2.1.2.2.1 r hr).1
  have q2 := q.2
  rw [nI_clamp (show r < 2 ^ 31 by omega), e13, q.1]
  have tl := two_l (N := nt (m 4 r)) (a := a3) (Q := Q) rfl (by omega) (fun ⟨i, y1, y2⟩ => h1 ⟨r, i, hr, y1, rfl, y2⟩) (fun y => h0 (fun ⟨r', i, y1, y2, y3, y4⟩ => by
    have : r = r' := (nI_eq (by omega) (by omega)).mp y3
    subst this
    exact y ⟨i, y2, y4⟩))
  exact ⟨tl.1, fun z => ⟨nu_in (by omega) (by decide), (tl.2 z).1, (tl.2 z).2⟩⟩
theorem m_mem {b m : hp_H} {a2 a3 : Int32} {Q : Int32 → Prop} (t : T0 b m) (h1 : Mem m a2 a3 → Q (nI 1)) (h0 : ¬ Mem m a2 a3 → Q (nI 0)) : q_X12_isMember m a2 a3 Q := by
  obtain ⟨-, ⟨n1, n2, n3⟩, -, e13, -⟩ := t.n
  unfold q_X12_isMember
  refine m_rl n2 (by omega) (fun z => br1 ?_) (fun z => br00 (h0 (fun ⟨r, i, y1, y2, y3, y4⟩ => z ⟨r, y1, y3⟩)))
  obtain ⟨r, hr, rfl⟩ := z
  have q := (t.1.2.1.2.2.1 r hr).1
  have q2 := q.2
  rw [nI_clamp (show r < 2 ^ 31 by omega)]
  refine ⟨nu_in (by omega) (by decide), m_in0 q.1 (by omega) (fun ⟨i, y1, y2⟩ => br1 (h1 ⟨r, i, hr, y1, rfl, y2⟩)) (fun y => br00 (h0 (fun ⟨r', i, y1, y2, y3, y4⟩ => ?_)))⟩
  have : r = r' := (nI_eq (by omega) (by omega)).mp y3
  subst this
  exact y ⟨i, y2, y4⟩
