/-! ===== what expressions tell in the states: tells, always; stuck ===== -/
def AK (p b : hp_H) (X : Nat → Prop) : Prop := ∀ e, e < nt (p 0 15) → (¬ (b 21 e &&& nI 8) = 0 ↔ Rc p X e)
theorem s_askNothing {p b : hp_H} {Q : hp_H → Prop} (v : VP p) (eq : EQ b p) (hQ : ∀ b', (∀ k, k ≠ 21 → b' k = b k) → AK p b' (fun _ => False) → Q b') : q_X5_askNothing b Q := by
  unfold q_X5_askNothing
  refine s_dropUse v eq (fun b' f u => hQ b' f (fun e he => ?_))
  rw [u e he, and_rot, show (nI 8 ^^^ (-1)) &&& nI 8 = 0 by decide, and_z]
  exact ⟨fun z => absurd rfl z, fun r => (r (fun _ => False) (fun _ z => z) (fun _ _ z _ => z)).elim⟩
theorem s_askToo {p b : hp_H} {e : Nat} {X : Nat → Prop} {Q : hp_H → Prop} (v : VP p) (eq : EQ b p) (ak : AK p b X) (hX : ∀ x, X x → x < nt (p 0 15)) (he : e < nt (p 0 15)) (hQ : ∀ b', (∀ k, k ≠ 21 → b' k = b k) → AK p b' (fun x => X x ∨ x = e) → Q b') : q_X5_askToo b (nI e) Q := by
  have E8 := v.2.2.2.1.1.2
  unfold q_X5_askToo
  refine s_addUse (by omega) (fun b1 f1 u1 => s_spreadUses v (EQ.fs (fun k hk => f1 k (by omega)) eq) (fun b2 f2 u2 => hQ b2 (fun k hk => (f2 k hk).trans (f1 k hk)) (fun y hy => ?_)))
  rw [u2 (nI 8) y hy]
  have n8 : ¬ (nI 8 &&& nI 8) = 0 := by decide
  constructor
  · intro r
    refine r (fun y => Rc p (fun x => X x ∨ x = e) y) (fun x hx => ?_) (fun x z hx d => hx.s d)
    rcases (u1 (nI 8) x).mp hx.2 with z | z
    · exact ((ak x hx.1).mp z).mono (fun w hw => Or.inl hw)
    · exact Rc.b (Or.inr z.1)
  · intro r
    refine r.mono (fun x hx => ?_)
    rcases hx with z | z
    · exact ⟨hX x z, (u1 (nI 8) x).mpr (Or.inl ((ak x (hX x z)).mpr (Rc.b z)))⟩
    · rw [z]; exact ⟨he, (u1 (nI 8) e).mpr (Or.inr ⟨rfl, n8⟩)⟩
theorem s_ask {p b : hp_H} {e : Nat} {Q : hp_H → Prop} (v : VP p) (eq : EQ b p) (he : e < nt (p 0 15)) (hQ : ∀ b', (∀ k, k ≠ 21 → b' k = b k) → AK p b' (fun x => x = e) → Q b') : q_X5_ask b (nI e) Q := by
  unfold q_X5_ask
  refine s_askNothing v eq (fun b1 f1 k1 => s_askToo v (EQ.fs (fun k hk => f1 k (by omega)) eq) k1 (fun _ z => z.elim) he (fun b2 f2 k2 => hQ b2 (fun k hk => (f2 k hk).trans (f1 k hk)) (fun y hy => (k2 y hy).trans ⟨fun r => r.mono (fun x hx => hx.elim False.elim id), fun r => r.mono (fun x hx => Or.inr hx)⟩)))
/-- what is asked for is of no member -/
def NO (p : hp_H) (X : Nat → Prop) : Prop := ∀ x, X x → x < nt (p 0 15) ∧ p 17 x = 0
theorem NO.c {p : hp_H} {X : Nat → Prop} (v : VP p) (h : NO p X) {e : Nat} (r : Rc p X e) : e < nt (p 0 15) ∧ p 17 e = 0 := by
  refine r (fun e => e < nt (p 0 15) ∧ p 17 e = 0) h (fun x y hx d => ?_)
  obtain ⟨x1, x2, x3, x4, x5, x6, x7, x8, x9, x10⟩ := v.2.2.2.1.2 x hx.1
  obtain ⟨k7, d⟩ := d
  have z := x10 hx.2
  rcases d with d | ⟨d1, d2⟩
  · rw [d]; exact ⟨by have := (x8 k7).2; omega, z.2.2.1 k7⟩
  · rw [d2]; exact ⟨by have := (x9 k7 d1).2; omega, z.2.2.2 k7 d1⟩
/-- states and rows, on the side of the class -/
def BR (p b : hp_H) : Prop := VP p ∧ EQ b p ∧ gN (srch p) ≤ 400 ∧ b 35 2 = nI (gN (srch p)) ∧ (∀ t, t < gN (srch p) → DG p (dg (srch p) t)) ∧ ∀ t, t < gN (srch p) → ∀ j, j < 13 → b 42 (13 * t + j) = nI (rw_w (dg (srch p) t) j)
theorem SRu.br {p b m : hp_H} {q : Nat} (t : T0 b m) (s : SRu p q b m) : BR p b := by
  obtain ⟨n4, eb, em, dgs, rws, rb⟩ := s.n
  exact ⟨s.1.1, t.2.1.pv s.1.2.1, n4, eb, dgs, rb⟩
theorem BR.fr {p b b' : hp_H} (h : BR p b) (f : ∀ k, k < 35 → k ≠ 16 → k ≠ 21 → b' k = b k) (f35 : b' 35 = b 35) (f42 : b' 42 = b 42) : BR p b' := by
  obtain ⟨v, eq, n, e, d, r⟩ := h
  exact ⟨v, EQ.fs (fun k hk => f k (by omega) (by omega) (by omega)) eq, n, by rw [f35]; exact e, d, by rw [f42]; exact r⟩
theorem BR.fb {p b b' : hp_H} (h : BR p b) (f : FRb b b') : BR p b' := h.fr (fun k h1 h2 h3 => f k h2 h3 (by omega) (by omega)) (f 35 (by decide) (by decide) (by decide) (by decide)) (f 42 (by decide) (by decide) (by decide) (by decide))
theorem s_lookAt {p b : hp_H} {s : Nat} {X : Nat → Prop} {Q : hp_H → Prop} (h : BR p b) (ak : AK p b X) (no : NO p X) (hs : s < gN (srch p)) (hQ : ∀ b', (∀ k, k ≠ 16 → k ≠ 52 → b' k = b k) → (∀ e, X e → b' 16 e = vl p (srch p) s e) → Q b') : q_X5_lookAt b (nI s) Q := by
  obtain ⟨v, eq, n, e, d, r⟩ := h
  unfold q_X5_lookAt q_X5_rowOf
  refine s_load (by omega) (r s hs) (by decide) (fun b1 f1 r1 => ?_)
  have e21 : b1 21 = b 21 := f1 21 (by decide)
  refine s_reckon (ro := -1) (me := -1) v (EQ.fs (fun k hk => f1 k (by omega)) eq) (d s hs).D r1 (by decide) (fun y hy z => ?_) (fun y hy z => ?_) (fun b2 f2 v2 => hQ b2 (fun k h1 h2 => (f2 k h1).trans (f1 k h2)) (fun y hy => ?_))
  · rw [e21] at z ⊢
    have rc := (ak y hy).mp z
    have E := (NO.c v no rc)
    obtain ⟨x1, x2, x3, x4, x5, x6, x7, x8, x9, x10⟩ := v.2.2.2.1.2 y hy
    refine ⟨fun k7 => (ak _ (by have := (x8 k7).2; omega)).mpr (rc.s ⟨k7, Or.inl rfl⟩), fun k7 k14 => (ak _ (by have := (x9 k7 k14).2; omega)).mpr (rc.s ⟨k7, Or.inr ⟨k14, rfl⟩⟩)⟩
  · rw [e21] at z
    have E := (NO.c v no ((ak y hy).mp z))
    have x10 := (v.2.2.2.1.2 y hy).2.2.2.2.2.2.2.2.2 E.2
    exact ⟨fun k2 => absurd k2 x10.1, fun k3 => absurd k3 x10.2.1⟩
  · have hy' := (no y hy).1
    exact v2 y hy' (by rw [e21]; exact (ak y hy').mpr (Rc.b hy))
theorem AK.fs {p b b' : hp_H} {X : Nat → Prop} (h : AK p b X) (f : b' 21 = b 21) : AK p b' X := by unfold AK; rw [f]; exact h
/-- the reference reckons for no member -/
theorem m_rk {p b m : hp_H} {q s : Nat} {Q : hp_H → Prop} (sr : SRu p q b m) (hs : s < gN (srch p)) (hQ : ∀ m', (∀ k, k ≠ 37 → m' k = m k) → (∀ e, e < nt (p 0 15) → m' 37 e = vl p (srch p) s e) → Q m') : q_X12_reckon m (nI s) (-1) (-1) Q := by
  obtain ⟨n4, eb, em, dgs, rws, rb⟩ := sr.n
  exact m_reckon sr.1.1 sr.1.2.1 (dgs s hs).1 (by omega) (rws s hs) (Or.inl rfl) hQ
theorem FRm.r37 {m m' : hp_H} (f : ∀ k, k ≠ 37 → m' k = m k) : FRm m m' := fun k hk => f k (by omega)
theorem PV.e {p m : hp_H} (pv : PV p m) : m 0 15 = p 0 15 ∧ m 17 = p 17 := ⟨pv.2.2.2.2.1, pv.1 17 (by decide) (by decide)⟩
theorem SRu.mfr {p b m b' m' : hp_H} {q : Nat} (h : SRu p q b m) (d : DV0 b) (fb : FRb b b') (fm : FRm m m') : SRu p q b' m' := ⟨h.1.fr fb fm d, h.2⟩
theorem t_tells {b m : hp_H} (h : R b m) (a1 a2 : Int32) : q_X11_tells b a1 a2 (fun r b' => q_X12_tells m a1 a2 (fun r' m' => r = r' ∧ R b' m')) := by
  obtain ⟨⟨n1, n2, n3⟩, -, -, -, -, e22⟩ := h.1.n
  unfold q_X11_tells q_X12_tells
  rcases h.c with ⟨n1, n2⟩ | ⟨u1, u2, p, q, sr⟩
  · exact b_nhas n1 (br00 (m_nus n2 (br00 ⟨rfl, h⟩)))
  obtain ⟨n4, eb, em, dgs, rws, -⟩ := sr.n
  have n31 : gN (srch p) < 2 ^ 31 := by omega
  refine b_has u1 eb n31 (fun z => br1 ?_) (fun z => br00 (m_us u2 (br1 (m_isSt em n31 (fun y => absurd y z) (fun _ => br00 ⟨rfl, h⟩)))))
  refine b_ex n1 (by omega) (fun w => br1 ?_) (fun w => br00 (m_us u2 (br1 (m_isSt em n31 (fun _ => br1 (m_ex n2 (by omega) (fun y => absurd y w) (fun _ => br00 ⟨rfl, h⟩))) (fun y => absurd z y)))))
  have z' := z
  have w' := w
  obtain ⟨s, hs, rfl⟩ := z
  obtain ⟨e, he, rfl⟩ := w
  have i80 : vp_in (nI e) 80 := nu_in (by omega) (by decide)
  obtain ⟨p15, p17⟩ := sr.1.2.1.e
  have he' : e < nt (p 0 15) := by rw [← p15]; exact he
  have ec : (nI e).toNatClampNeg = e := nI_clamp (by omega)
  unfold q_X1_isOwned
  rw [ec, e22]
  refine ⟨i80, (h.1.1.2.2.2.1.2 e he).2.1, fun c => ?_, fun c => ?_⟩
  · have br := sr.br h.1
    refine s_ask br.1 br.2.1 he' (fun b1 f1 k1 => s_lookAt (br.fb (FRb.o21 f1)) k1 (fun x hx => by rw [hx]; exact ⟨he', by rw [← p17]; exact c⟩) hs (fun b2 f2 v2 => ?_))
    unfold q_X5_answer
    rw [ec, v2 e rfl]
    have fb : FRb b b2 := (FRb.o21 f1).tr (fun k k1 _ k3 _ => f2 k k1 k3)
    refine ⟨i80, m_us u2 (br1 (m_isSt em n31 (fun _ => br1 (m_ex n2 (by omega) (fun _ => br1 ⟨i80, fun _ => m_rk sr hs (fun m1 f1 v1 => ⟨i80, (v1 e he').symm, h.fr fb (FRm.r37 f1)⟩), fun y => absurd c y⟩) (fun y => absurd w' y))) (fun y => absurd z' y)))⟩
  · exact m_us u2 (br1 (m_isSt em n31 (fun _ => br1 (m_ex n2 (by omega) (fun _ => br1 ⟨i80, fun y => absurd y c, fun _ => ⟨rfl, h⟩⟩) (fun y => absurd w' y))) (fun y => absurd z' y)))
/-- the first one, or none -/
def LST (P : Nat → Prop) (N : Nat) (x : Int32) : Prop := (∃ s, s < N ∧ P s ∧ (∀ t, t < s → ¬ P t) ∧ x = nI s) ∨ ((∀ t, t < N → ¬ P t) ∧ x = -1)
theorem LST.u {P : Nat → Prop} {N : Nat} {x y : Int32} (h : LST P N x) (k : LST P N y) : x = y := by
  rcases h with ⟨s, s1, s2, s3, s4⟩ | ⟨s1, s2⟩ <;> rcases k with ⟨t, t1, t2, t3, t4⟩ | ⟨t1, t2⟩
  · rcases Nat.lt_trichotomy s t with z | z | z
    · exact absurd s2 (t3 s z)
    · rw [s4, t4, z]
    · exact absurd t2 (s3 t z)
  · exact absurd s2 (t1 s s1)
  · exact absurd t2 (s1 t t1)
  · rw [s2, t2]
theorem LST.cg {P P' : Nat → Prop} {N : Nat} {x : Int32} (h : LST P N x) (e : ∀ s, s < N → (P s ↔ P' s)) : LST P' N x := by
  rcases h with ⟨s, s1, s2, s3, s4⟩ | ⟨s1, s2⟩
  · exact Or.inl ⟨s, s1, (e s s1).mp s2, fun t ht => fun z => s3 t ht ((e t (by omega)).mpr z), s4⟩
  · exact Or.inr ⟨fun t ht => fun z => s1 t ht ((e t ht).mpr z), s2⟩
theorem t_always {b m : hp_H} (h : R b m) (a1 : Int32) : q_X11_always b a1 (fun r b' => q_X12_always m a1 (fun r' m' => r = r' ∧ R b' m')) := by
  have t := h.1
  obtain ⟨⟨n1, n2, n3⟩, -, -, -, -, -⟩ := t.n
  unfold q_X11_always q_X12_always
  refine b_refuse t (fun z => ⟨fun y => absurd y (by decide), fun _ => m_ex n2 (by omega) (fun y => absurd y z) (fun _ => br00 ⟨rfl, h⟩)⟩) (fun e he e1 z => ⟨fun y => absurd y (by decide), fun _ => m_ex n2 (by omega) (fun _ => br1 ?_) (fun y => absurd ⟨e, he, e1⟩ y)⟩) (fun e he e1 z => br00 ?_)
  · rw [e1, nI_clamp (show e < 2 ^ 31 by omega)]
    exact ⟨nu_in (by omega) (by decide), fun y => absurd y z, fun _ => ⟨rfl, h⟩⟩
  subst e1
  have i80 : vp_in (nI e) 80 := nu_in (by omega) (by decide)
  have ec : (nI e).toNatClampNeg = e := nI_clamp (by omega)
  rcases h.c with ⟨n1, n2'⟩ | ⟨u1, u2, p, q, sr⟩
  · refine b_nus n1 (br00 (m_ex n2 (by omega) (fun _ => br1 ⟨i80, ?_⟩) (fun y => absurd ⟨e, he, rfl⟩ y)))
    rw [ec]
    exact ⟨fun _ => m_nus n2' (br00 ⟨rfl, h⟩), fun y => absurd z y⟩
  obtain ⟨n4, eb, em, dgs, rws, -⟩ := sr.n
  obtain ⟨p15, p17⟩ := sr.1.2.1.e
  have he' : e < nt (p 0 15) := by rw [← p15]; exact he
  have br := sr.br t
  refine b_us u1 (br1 (s_ask br.1 br.2.1 he' (fun b1 f1 k1 => ?_)))
  have no : NO p (fun x => x = e) := fun x hx => by rw [hx]; exact ⟨he', by rw [← p17]; exact z⟩
  -- the reference
  have ref : ∀ x b', FRb b b' → LST (fun s => vl p (srch p) s e = 0) (gN (srch p)) x → q_X12_isExpr m (nI e) (fun r1 => (r1 = 0 → x = -2 ∧ R b' m) ∧ (¬ r1 = 0 → vp_in (nI e) 80 ∧ ((m 17 (nI e).toNatClampNeg) = 0 → q_X12_hasStates m (fun r4 => (r4 = 0 → x = -5 ∧ R b' m) ∧ (¬ r4 = 0 → hp_lp1h (fun v7 h8 B6 => ((h8 0 35) ≤ v7 → x = -1 ∧ R b' h8) ∧ (¬ (h8 0 35) ≤ v7 → q_X12_reckon h8 v7 (-1) (-1) (fun h10 => vp_in (nI e) 80 ∧ ((h10 37 (nI e).toNatClampNeg) = 0 → x = v7 ∧ R b' h10) ∧ (¬ (h10 37 (nI e).toNatClampNeg) = 0 → ∀ v12 : Int32, v12 = v7 + (nI 1) → B6 v12 h10)))) (nI 0) m))) ∧ (¬ (m 17 (nI e).toNatClampNeg) = 0 → x = -4 ∧ R b' m))) := by
    intro x b' fb hl
    refine m_ex n2 (by omega) (fun _ => br1 ⟨i80, ?_⟩) (fun y => absurd ⟨e, he, rfl⟩ y)
    rw [ec]
    refine ⟨fun _ => m_us u2 (br1 ?_), fun y => absurd z y⟩
    refine hp_lp1h_ind (fun v h => ∃ j, v = nI j ∧ j ≤ gN (srch p) ∧ FRm m h ∧ ∀ t, t < j → ¬ vl p (srch p) t e = 0) (fun v h => 400 - nt v) ?_ ⟨0, rfl, by omega, FRm.rf, fun t ht => by omega⟩
    rintro v h' ⟨j, rfl, hj, fm, hk⟩
    have em' : h' 0 35 = nI (gN (srch p)) := by rw [fm 0 (by decide)]; exact em
    rw [em', nI_leI (by omega) (by omega)]
    refine ⟨fun c => ⟨hl.u (Or.inr ⟨fun t ht => hk t (by omega), rfl⟩), h.fr fb fm⟩, fun c => ?_⟩
    refine m_rk (sr.mfr t.2.2.2.2 FRb.rf fm) (by omega) (fun m1 f1 v1 => ⟨i80, ?_⟩)
    rw [v1 e he']
    refine ⟨fun c2 => ⟨hl.u (Or.inl ⟨j, by omega, c2, hk, rfl⟩), h.fr fb (fm.tr (FRm.r37 f1))⟩, fun c2 => ?_⟩
    rintro w rfl
    rw [nI_add]
    refine ⟨⟨j + 1, rfl, by omega, fm.tr (FRm.r37 f1), fun k hk2 => ?_⟩, by rw [nt_nI (by omega), nt_nI (by omega)]; omega⟩
    rcases (show k < j ∨ k = j by omega) with y | y
    · exact hk k y
    · subst y; exact c2
  refine hp_lp1h_ind (fun v h => ∃ j, v = nI j ∧ j ≤ gN (srch p) ∧ FRb b h ∧ AK p h (fun x => x = e) ∧ ∀ t, t < j → ¬ vl p (srch p) t e = 0) (fun v h => 400 - nt v) ?_ ⟨0, rfl, by omega, FRb.o21 f1, k1, fun t ht => by omega⟩
  rintro v h' ⟨j, rfl, hj, fb, ak, hk⟩
  have eb' : h' 35 2 = nI (gN (srch p)) := by rw [fb 35 (by decide) (by decide) (by decide) (by decide)]; exact eb
  rw [eb', nI_leI (by omega) (by omega)]
  refine ⟨fun c => ref (-1) h' fb (Or.inr ⟨fun t ht => hk t (by omega), rfl⟩), fun c => ?_⟩
  refine s_lookAt (br.fb fb) ak no (by omega) (fun b2 f2 v2 => ?_)
  have fb2 : FRb b b2 := fb.tr (fun k k1 _ k3 _ => f2 k k1 k3)
  unfold q_X5_answer
  have e16 : b2 16 (nI e).toNatClampNeg = vl p (srch p) j e := by rw [ec]; exact v2 e rfl
  rw [e16]
  refine ⟨i80, fun c2 => ref (nI j) b2 fb2 (Or.inl ⟨j, by omega, c2, hk, rfl⟩), fun c2 => ?_⟩
  rintro w rfl
  rw [nI_add]
  refine ⟨⟨j + 1, rfl, by omega, fb2, ak.fs (f2 21 (by decide) (by decide)), fun k hk2 => ?_⟩, by rw [nt_nI (by omega), nt_nI (by omega)]; omega⟩
  rcases (show k < j ∨ k = j by omega) with y | y
  · exact hk k y
  · subst y; exact c2
/-- a state from which no member moves, and not all are at an end -/
def STK (p g m : hp_H) (s : Nat) : Prop := (∀ i, nt (g 31 s) ≤ i → i < nt (g 31 (s + 1)) → g 33 i = -1) ∧ ∃ r i, r < nt (p 0 4) ∧ i < nt (p 4 r) ∧ m 9 (10 * r + dg g s (6 + 4 * (3 * r + i))) = 0
theorem s_hasMemberMove {p b m : hp_H} {q s : Nat} {Q : Int32 → Prop} (sr : SRu p q b m) (hs : s < gN (srch p)) (h0 : (∀ i, nt (srch p 31 s) ≤ i → i < nt (srch p 31 (s + 1)) → srch p 33 i = -1) → Q (nI 0)) (h1 : (¬ ∀ i, nt (srch p 31 s) ≤ i → i < nt (srch p 31 (s + 1)) → srch p 33 i = -1) → Q (nI 1)) : q_X2_hasMemberMove b (nI s) Q := by
  obtain ⟨n4, eb, em, dgs, rws, -⟩ := sr.n
  obtain ⟨f1, f2, f3⟩ := sr.f
  obtain ⟨l1, l2, l3, l4, l5⟩ := f1.r hs
  unfold q_X2_hasMemberMove q_X2_movesFrom
  have ed : srch p 31 (s + 1) - srch p 31 s = nI (nt (srch p 31 (s + 1)) - nt (srch p 31 s)) := by
    rw [l1, l2, nt_nI (by omega), nt_nI (by omega)]; exact pk_sub l3
  rw [nI_add, nI_clamp (show s + 1 < 2 ^ 31 by omega), nI_clamp (show s < 2 ^ 31 by omega), (f2 s (by omega)).1, (f2 (s + 1) (by omega)).1, ed]
  refine ⟨nu_in (by omega) (by decide), nu_in (by omega) (by decide), fun c => h0 (fun i h1 h2 => ?_), fun c => ⟨nu_in (by omega) (by decide), ?_⟩⟩
  · rw [← nI_0, nI_leI (by omega) (by decide)] at c; omega
  · have lt : nt (srch p 31 s) < nt (srch p 31 (s + 1)) := by
      rcases Nat.lt_or_ge (nt (srch p 31 s)) (nt (srch p 31 (s + 1))) with z | z
      · exact z
      · exact absurd (by rw [show nt (srch p 31 (s + 1)) - nt (srch p 31 s) = 0 by omega]; decide) c
    rw [l1]
    obtain ⟨-, g41, -⟩ := f3 (nt (srch p 31 s)) (by omega)
    refine s_moverBit sr.1.1 (f1.1.2.2.2.2 (nt (srch p 31 s)) (by omega)).2.2 g41 (by omega) (fun z => br00 (h0 (fun i k1 k2 => ?_))) (fun r i _ _ r3 i3 z _ => ?_)
    · rcases (show nt (srch p 31 s) = i ∨ nt (srch p 31 s) < i by omega) with y | y
      · rw [← y]; exact z
      · exact (f1.2.2.2.2 s hs).2 _ i (Nat.le_refl _) y k2 z
    · refine ⟨fun y => ?_, fun _ => h1 (fun y => ?_)⟩
      · have p9 : 2 ^ (3 * r + i) < 2 ^ 31 := Nat.pow_lt_pow_right (by decide) (by omega)
        rw [← nI_0, nI_eq p9 (by decide)] at y
        have := Nat.two_pow_pos (3 * r + i)
        omega
      · have := y _ (Nat.le_refl _) lt
        rw [z] at this
        exact (nu_m1 (show r < 2 ^ 31 by omega)).mp this
theorem s_someAtNoEnd {p b m : hp_H} {d : Nat → Nat} {Q : Int32 → Prop} (v : VP p) (eq : EQ b p) (ee : EQe b m) (hd : ∀ k, d k ≤ 9) (hr : rw_B b 52 d) (h1 : (∃ r i, r < nt (p 0 4) ∧ i < nt (p 4 r) ∧ m 9 (10 * r + d (6 + 4 * (3 * r + i))) = 0) → Q (nI 1)) (h0 : (¬ ∃ r i, r < nt (p 0 4) ∧ i < nt (p 4 r) ∧ m 9 (10 * r + d (6 + 4 * (3 * r + i))) = 0) → Q (nI 0)) : q_X4_someAtNoEnd b Q := by
  have vr := v.2.1
  have R3 := vr.1.2
  have e12 : b 12 1 = nI (nt (p 0 4)) := by rw [eq.2.1.2.1]; exact vr.1.1
  unfold q_X4_someAtNoEnd
  refine hp_lp1_ind (fun x => ∃ r, x = nI r ∧ r ≤ nt (p 0 4) ∧ ∀ r' i, r' < r → i < nt (p 4 r') → ¬ m 9 (10 * r' + d (6 + 4 * (3 * r' + i))) = 0) (fun x => 3 - nt x) ?_ ⟨0, rfl, by omega, fun r' i h => by omega⟩
  rintro x ⟨r, rfl, hr', hk⟩
  rw [e12, nI_leI (by omega) (by omega)]
  refine ⟨fun c => h0 (fun ⟨r', i, q1, q2, q3⟩ => hk r' i (by omega) q2 q3), fun c => ?_⟩
  have rr : r < nt (p 0 4) := by omega
  have m4 := (vr.2.2.1 r rr).1
  have m42 := m4.2
  have e13 : b 13 r = nI (nt (p 4 r)) := by rw [eq.1.2.2.2.1]; exact m4.1
  refine hp_lp1_ind (fun x => ∃ i, x = nI i ∧ i ≤ nt (p 4 r) ∧ ∀ i', i' < i → ¬ m 9 (10 * r + d (6 + 4 * (3 * r + i'))) = 0) (fun x => 3 - nt x) ?_ ⟨0, rfl, by omega, fun i h => by omega⟩
  rintro x ⟨i, rfl, hi, hk2⟩
  rw [nI_clamp (show r < 2 ^ 31 by omega), e13, nI_leI (by omega) (by omega)]
  refine ⟨nu_in (by omega) (by decide), fun c2 => ?_, fun c2 => ?_⟩
  · rintro w rfl
    rw [nI_add]
    refine ⟨⟨r + 1, rfl, by omega, fun r' i' q1 q2 => ?_⟩, by rw [nt_nI (by omega), nt_nI (by omega)]; omega⟩
    rcases (show r' < r ∨ r' = r by omega) with y | y
    · exact hk r' i' y q2
    · subst y; exact hk2 i' (by omega)
  · have d9 := hd (6 + 4 * (3 * r + i))
    refine s_placeOf (fun k => by have := hd k; omega) hr (by omega) (by omega) ?_
    unfold q_X6_isEnd
    obtain ⟨n, n1, n2, n3⟩ := ee r (by omega)
    rw [nI_clamp (show r < 2 ^ 31 by omega), n2, te_bit n1 (by omega)]
    obtain ⟨n4, n5⟩ := n3 (d (6 + 4 * (3 * r + i))) (by omega)
    refine ⟨nu_in (by omega) (by decide), fun z => br1 ?_, fun z => br00 (h1 ⟨r, i, rr, by omega, ?_⟩)⟩
    · rintro w rfl
      rw [nI_add]
      refine ⟨⟨i + 1, rfl, by omega, fun i' q1 => ?_⟩, by rw [nt_nI (by omega), nt_nI (by omega)]; omega⟩
      rcases (show i' < i ∨ i' = i by omega) with y | y
      · exact hk2 i' y
      · subst y; rw [n5.mp z]; decide
    · rcases n4 with y | y
      · exact y
      · exact absurd (n5.mpr y) z
theorem m_isStuck {p b m : hp_H} {q s : Nat} {Q : Int32 → Prop} (sr : SRu p q b m) (hs : s < gN (srch p)) (h1 : STK p (srch p) m s → Q (nI 1)) (h0 : ¬ STK p (srch p) m s → Q (nI 0)) : q_X12_isStuck m (nI s) Q := by
  obtain ⟨n4, eb, em, dgs, rws, -⟩ := sr.n
  obtain ⟨f1, f2, f3⟩ := sr.f
  obtain ⟨l1, l2, l3, l4, l5⟩ := f1.r hs
  have pv := sr.1.2.1
  have v := sr.1.1
  have vr := v.2.1
  have R3 := vr.1.2
  have e4 : m 0 4 = nI (nt (p 0 4)) := by rw [pv.2.2.1]; exact vr.1.1
  unfold q_X12_isStuck
  rw [nI_add, nI_clamp (show s + 1 < 2 ^ 31 by omega), nI_clamp (show s < 2 ^ 31 by omega), (f2 s (by omega)).2, (f2 (s + 1) (by omega)).2]
  refine ⟨nu_in (by omega) (by decide), ?_⟩
  rintro w rfl
  refine hp_lp1_ind (fun x => ∃ k, x = nI k ∧ nt (srch p 31 s) ≤ k ∧ k ≤ nt (srch p 31 (s + 1)) ∧ ∀ i, nt (srch p 31 s) ≤ i → i < k → srch p 33 i = -1) (fun x => 6000 - nt x) ?_ ⟨nt (srch p 31 s), l1, Nat.le_refl _, l3, fun i k1 k2 => by omega⟩
  rintro x ⟨k, rfl, hk1, hk2, hk⟩
  have el : (srch p 31 (s + 1) ≤ nI k) ↔ nt (srch p 31 (s + 1)) ≤ k := isn_leR (b := 6000) ⟨l2, by omega⟩ (by decide) (by omega)
  rw [el]
  refine ⟨nu_in (by omega) (by decide), fun c => ?_, fun c => ⟨nu_in (by omega) (by decide), ?_⟩⟩
  case refine_2 =>
    rw [nI_clamp (show k < 2 ^ 31 by omega), (f3 k (by omega)).2.2.2.1]
    refine ⟨fun z => ?_, fun z => h0 (fun st => z (st.1 k hk1 (by omega)))⟩
    rintro w rfl
    rw [nI_add]
    refine ⟨⟨k + 1, rfl, by omega, by omega, fun i q1 q2 => ?_⟩, by rw [nt_nI (by omega), nt_nI (by omega)]; omega⟩
    rcases (show i < k ∨ i = k by omega) with y | y
    · exact hk i q1 y
    · subst y; exact z
  have no : ∀ i, nt (srch p 31 s) ≤ i → i < nt (srch p 31 (s + 1)) → srch p 33 i = -1 := fun i q1 q2 => hk i q1 (by omega)
  refine hp_lp1_ind (fun x => ∃ r, x = nI r ∧ r ≤ nt (p 0 4) ∧ ∀ r' i, r' < r → i < nt (p 4 r') → ¬ m 9 (10 * r' + dg (srch p) s (6 + 4 * (3 * r' + i))) = 0) (fun x => 3 - nt x) ?_ ⟨0, rfl, by omega, fun r' i h => by omega⟩
  rintro x ⟨r, rfl, hr', hk⟩
  rw [e4, nI_leI (by omega) (by omega)]
  refine ⟨fun c => h0 (fun ⟨_, r', i, q1, q2, q3⟩ => hk r' i (by omega) q2 q3), fun c => ?_⟩
  have rr : r < nt (p 0 4) := by omega
  have m4 := (vr.2.2.1 r rr).1
  have m42 := m4.2
  have e13 : m 4 r = nI (nt (p 4 r)) := by rw [pv.1 4 (by decide) (by decide)]; exact m4.1
  refine hp_lp1_ind (fun x => ∃ i, x = nI i ∧ i ≤ nt (p 4 r) ∧ ∀ i', i' < i → ¬ m 9 (10 * r + dg (srch p) s (6 + 4 * (3 * r + i'))) = 0) (fun x => 3 - nt x) ?_ ⟨0, rfl, by omega, fun i h => by omega⟩
  rintro x ⟨i, rfl, hi, hk2⟩
  rw [nI_clamp (show r < 2 ^ 31 by omega), e13, nI_leI (by omega) (by omega)]
  refine ⟨nu_in (by omega) (by decide), fun c2 => ?_, fun c2 => ?_⟩
  · rintro w rfl
    rw [nI_add]
    refine ⟨⟨r + 1, rfl, by omega, fun r' i' q1 q2 => ?_⟩, by rw [nt_nI (by omega), nt_nI (by omega)]; omega⟩
    rcases (show r' < r ∨ r' = r by omega) with y | y
    · exact hk r' i' y q2
    · subst y; exact hk2 i' (by omega)
  · have d9 := (dgs s hs).1 (6 + 4 * (3 * r + i))
    unfold q_X12_memberAt
    rw [mAt]
    refine m_cell (by omega) (rws s hs) (by omega) ?_
    rw [pk_mul, nI_add, nI_clamp (show 10 * r + dg (srch p) s (6 + 4 * (3 * r + i)) < 2 ^ 31 by omega)]
    refine ⟨nu_in (by omega) (by decide), fun z => h1 ⟨no, r, i, rr, by omega, z⟩, fun z => ?_⟩
    rintro w rfl
    rw [nI_add]
    refine ⟨⟨i + 1, rfl, by omega, fun i' q1 => ?_⟩, by rw [nt_nI (by omega), nt_nI (by omega)]; omega⟩
    rcases (show i' < i ∨ i' = i by omega) with y | y
    · exact hk2 i' y
    · subst y; exact z
theorem t_stuck {b m : hp_H} (h : R b m) : q_X11_stuck b (fun r b' => q_X12_stuck m (fun r' => r = r' ∧ R b' m)) := by
  have t := h.1
  unfold q_X11_stuck
  rcases h.c with ⟨n1, n2⟩ | ⟨u1, u2, p, q, sr⟩
  · unfold q_X12_stuck
    exact b_nus n1 (br00 (m_nus n2 (br00 ⟨rfl, h⟩)))
  obtain ⟨n4, eb, em, dgs, rws, -⟩ := sr.n
  have ref : ∀ x b', FRb b b' → LST (STK p (srch p) m) (gN (srch p)) x → q_X12_stuck m (fun r' => x = r' ∧ R b' m) := by
    intro x b' fb hl
    unfold q_X12_stuck
    refine m_us u2 (br1 ?_)
    refine hp_lp1_ind (fun v => ∃ j, v = nI j ∧ j ≤ gN (srch p) ∧ ∀ t, t < j → ¬ STK p (srch p) m t) (fun v => 400 - nt v) ?_ ⟨0, rfl, by omega, fun t ht => by omega⟩
    rintro v ⟨j, rfl, hj, hk⟩
    rw [em, nI_leI (by omega) (by omega)]
    refine ⟨fun c => ⟨hl.u (Or.inr ⟨fun t ht => hk t (by omega), rfl⟩), h.fr fb FRm.rf⟩, fun c => ?_⟩
    refine m_isStuck sr (by omega) (fun c2 => br1 ⟨hl.u (Or.inl ⟨j, by omega, c2, hk, rfl⟩), h.fr fb FRm.rf⟩) (fun c2 => br00 ?_)
    rintro w rfl
    rw [nI_add]
    refine ⟨⟨j + 1, rfl, by omega, fun k hk2 => ?_⟩, by rw [nt_nI (by omega), nt_nI (by omega)]; omega⟩
    rcases (show k < j ∨ k = j by omega) with y | y
    · exact hk k y
    · subst y; exact c2
  refine b_us u1 (br1 ?_)
  refine hp_lp1h_ind (fun v h => ∃ j, v = nI j ∧ j ≤ gN (srch p) ∧ (∀ k, k ≠ 52 → h k = b k) ∧ ∀ t, t < j → ¬ STK p (srch p) m t) (fun v h => 400 - nt v) ?_ ⟨0, rfl, by omega, fun _ _ => rfl, fun t ht => by omega⟩
  rintro v h' ⟨j, rfl, hj, f', hk⟩
  have fb : FRb b h' := FRb.r52 f'
  have sr' := sr.mfr t.2.2.2.2 fb FRm.rf
  have br := (sr.br t).fb fb
  have eb' : h' 35 2 = nI (gN (srch p)) := by rw [f' 35 (by decide)]; exact eb
  have ee' : EQe h' m := by unfold EQe; rw [f' 14 (by decide)]; exact t.2.1.2.2.1
  rw [eb', nI_leI (by omega) (by omega)]
  refine ⟨fun c => ref (-1) h' fb (Or.inr ⟨fun t ht => hk t (by omega), rfl⟩), fun c => ?_⟩
  have jl : j < gN (srch p) := by omega
  have step : ∀ h2 : hp_H, (∀ k, k ≠ 52 → h2 k = b k) → ¬ STK p (srch p) m j → ∀ v14, v14 = nI j + nI 1 → (∃ j, v14 = nI j ∧ j ≤ gN (srch p) ∧ (∀ k, k ≠ 52 → h2 k = b k) ∧ ∀ t, t < j → ¬ STK p (srch p) m t) ∧ 400 - nt v14 < 400 - nt (nI j) := by
    rintro h2 f2 c2 w rfl
    rw [nI_add]
    refine ⟨⟨j + 1, rfl, by omega, f2, fun k hk2 => ?_⟩, by rw [nt_nI (by omega), nt_nI (by omega)]; omega⟩
    rcases (show k < j ∨ k = j by omega) with y | y
    · exact hk k y
    · subst y; exact c2
  refine s_hasMemberMove sr' jl (fun c2 => hp_jn0h_i (br00 ?_)) (fun c2 => hp_jn0h_i (br1 (step h' f' (fun st => c2 st.1))))
  refine b_row sr' jl (fun b2 f2 r2 => ?_)
  have f2' : ∀ k, k ≠ 52 → b2 k = b k := fun k hk => (f2 k hk).trans (f' k hk)
  refine s_someAtNoEnd (m := m) br.1 (br.fb (FRb.r52 f2)).2.1 (by unfold EQe; rw [f2' 14 (by decide)]; exact t.2.1.2.2.1) (dgs j jl).1 r2 (fun c3 => br1 (ref (nI j) b2 (FRb.r52 f2') (Or.inl ⟨j, jl, ⟨c2, c3⟩, hk, rfl⟩))) (fun c3 => br00 (step b2 f2' (fun st => c3 st.2)))
