/-! ===== what is asked of the states that were found ===== -/
theorem SRu.n {p b m : hp_H} {q : Nat} (s : SRu p q b m) : gN (srch p) ≤ 400 ∧ b 35 2 = nI (gN (srch p)) ∧ m 0 35 = nI (gN (srch p)) ∧ (∀ t, t < gN (srch p) → DG p (dg (srch p) t)) ∧ (∀ t, t < gN (srch p) → RW m t (dg (srch p) t)) ∧ (∀ t, t < gN (srch p) → ∀ j, j < 13 → b 42 (13 * t + j) = nI (rw_w (dg (srch p) t) j)) := by
  obtain ⟨⟨v, pv, ft, ab, am, hq, e33, e34, dv⟩, c⟩ := s
  have w := ab.1
  exact ⟨gN_le w, by rw [ab.2.2.2.1]; exact w.1.1, by rw [am.2.1]; exact w.1.1, fun t ht => (w.2.2.2.2.2.1 t ht).2, am.2.2.2.2.2.1, ab.2.2.2.2.2.2.2.1⟩
theorem b_row {p b m : hp_H} {q s : Nat} {Q : hp_H → Prop} (sr : SRu p q b m) (hs : s < gN (srch p)) (hQ : ∀ b', (∀ k, k ≠ 52 → b' k = b k) → rw_B b' 52 (dg (srch p) s) → Q b') : q_X5_rowOf b (nI s) Q := by
  obtain ⟨n4, -, -, -, -, r⟩ := sr.n
  unfold q_X5_rowOf
  exact s_load (by omega) (r s hs) (by decide) hQ
theorem FRb.r52 {b b' : hp_H} (f : ∀ k, k ≠ 52 → b' k = b k) : FRb b b' := fun k _ _ h _ => f k h
/-- first moves, on both sides -/
theorem SRu.f {p b m : hp_H} {q : Nat} (s : SRu p q b m) : FS p (srch p) (gN (srch p)) ∧ (∀ i, i ≤ gN (srch p) → b 36 i = srch p 31 i ∧ m 31 i = srch p 31 i) ∧ (∀ i, i < gK (srch p) → b 37 i = srch p 32 i ∧ b 41 i = mvc (srch p 33 i) (srch p 34 i) (srch p 35 i) ∧ m 32 i = srch p 32 i ∧ m 33 i = srch p 33 i ∧ m 34 i = srch p 34 i ∧ m 35 i = srch p 35 i) := by
  obtain ⟨⟨v, pv, ft, ab, am, hq, e33, e34, dv⟩, c⟩ := s
  have := hq c
  exact ⟨srch_V v c, fun i hi => ⟨ab.2.2.2.2.2.2.2.2.2.2.1 i (by omega), am.2.2.2.2.2.2.2.2 i (by omega)⟩, fun i hi => ⟨(ab.2.2.2.2.2.2.2.2.2.1 i hi).1, (ab.2.2.2.2.2.2.2.2.2.1 i hi).2, am.2.2.2.2.2.2.2.1 i hi⟩⟩
/-- the moves of a state: from lo, so many -/
theorem FS.r {p g : hp_H} {N s : Nat} (f : FS p g N) (hs : s < N) : g 31 s = nI (nt (g 31 s)) ∧ g 31 (s + 1) = nI (nt (g 31 (s + 1))) ∧ nt (g 31 s) ≤ nt (g 31 (s + 1)) ∧ nt (g 31 (s + 1)) ≤ gK g ∧ gK g ≤ 6000 := by
  obtain ⟨gi, z0, zs, fm, od⟩ := f
  exact ⟨(fm s (by omega)).1.1, (fm (s + 1) (by omega)).1.1, (od s hs).1, (fm (s + 1) (by omega)).2, gi.2.2.1⟩
theorem t_place {b m : hp_H} (h : R b m) (a1 a2 a3 : Int32) : q_X11_place b a1 a2 a3 (fun r b' => q_X12_place m a1 a2 a3 (fun r' => r = r' ∧ R b' m)) := by
  unfold q_X11_place q_X12_place
  rcases h.c with ⟨n1, n2⟩ | ⟨u1, u2, p, q, sr⟩
  · exact b_nus n1 (br00 (m_nus n2 (br00 ⟨rfl, h⟩)))
  obtain ⟨n4, eb, em, dgs, rws, -⟩ := sr.n
  have n31 : gN (srch p) < 2 ^ 31 := by omega
  refine b_us u1 (br1 (b_has u1 eb n31 (fun z => br1 ?_) (fun z => br00 (m_us u2 (br1 (m_isSt em n31 (fun y => absurd y z) (fun _ => br00 ⟨rfl, h⟩)))))))
  refine b_mem h.1 (fun w => br1 ?_) (fun w => br00 (m_us u2 (br1 (m_isSt em n31 (fun _ => br1 (m_mem h.1 (fun y => absurd y w) (fun _ => br00 ⟨rfl, h⟩))) (fun y => absurd z y)))))
  have z' := z
  have w' := w
  obtain ⟨s, hs, rfl⟩ := z
  obtain ⟨r, i, hr, hi, rfl, rfl⟩ := w
  have r3 := h.1.1.2.1.1.2
  have m3 := (h.1.1.2.1.2.2.1 r hr).1.2
  refine b_row sr hs (fun b' f' r' => s_placeOf (dgs s hs).D r' (by omega) (by omega) (m_us u2 (br1 (m_isSt em n31 (fun _ => br1 (m_mem h.1 (fun _ => br1 ?_) (fun y => absurd w' y))) (fun y => absurd z' y)))))
  unfold q_X12_memberAt
  rw [mAt]
  exact m_cell (by omega) (rws s hs) (by omega) ⟨rfl, h.fr (FRb.r52 f') FRm.rf⟩
theorem t_owned {b m : hp_H} (h : R b m) (a1 a2 a3 a4 : Int32) : q_X11_owned b a1 a2 a3 a4 (fun r b' => q_X12_owned m a1 a2 a3 a4 (fun r' => r = r' ∧ R b' m)) := by
  unfold q_X11_owned q_X12_owned
  rcases h.c with ⟨n1, n2⟩ | ⟨u1, u2, p, q, sr⟩
  · exact b_nus n1 (br00 (m_nus n2 (br00 ⟨rfl, h⟩)))
  obtain ⟨n4, eb, em, dgs, rws, -⟩ := sr.n
  have n31 : gN (srch p) < 2 ^ 31 := by omega
  refine b_us u1 (br1 (b_has u1 eb n31 (fun z => br1 ?_) (fun z => br00 (m_us u2 (br1 (m_isSt em n31 (fun y => absurd y z) (fun _ => br00 ⟨rfl, h⟩)))))))
  refine b_mem h.1 (fun w => br1 ?_) (fun w => br00 (m_us u2 (br1 (m_isSt em n31 (fun _ => br1 (m_mem h.1 (fun y => absurd y w) (fun _ => br00 ⟨rfl, h⟩))) (fun y => absurd z y)))))
  have z' := z
  have w' := w
  obtain ⟨s, hs, rfl⟩ := z
  obtain ⟨r, i, hr, hi, rfl, rfl⟩ := w
  have r3 := h.1.1.2.1.1.2
  have m3 := (h.1.1.2.1.2.2.1 r hr).1.2
  have o5 := h.1.1.2.1.2.1 r (by omega)
  have o52 := o5.2
  obtain ⟨-, -, -, -, e8, -⟩ := h.1.n
  have i3 : vp_in (nI r) 3 := nu_in (by omega) (by decide)
  -- the reference, once the variable is known or not
  have ref : ∀ (x : Int32) (b' : hp_H), R b' m → (inN (nt (m 5 r)) a4 → ∀ k, k < nt (m 5 r) → a4 = nI k → x = nI (dg (srch p) s (7 + 4 * (3 * r + i) + k))) → (¬ inN (nt (m 5 r)) a4 → x = -2) → q_X12_hasStates m (fun r1 => (r1 = 0 → x = -5 ∧ R b' m) ∧ (¬ r1 = 0 → q_X12_isState m (nI s) (fun r3 => (r3 = 0 → x = -2 ∧ R b' m) ∧ (¬ r3 = 0 → q_X12_isMember m (nI r) (nI i) (fun r5 => (r5 = 0 → x = -2 ∧ R b' m) ∧ (¬ r5 = 0 → vp_in (nI r) 3 ∧ q_X12_in a4 (nI 0) ((m 5 (nI r).toNatClampNeg) - (nI 1)) (fun r7 => (r7 = 0 → x = -2 ∧ R b' m) ∧ (¬ r7 = 0 → q_X12_memberAt (nI r) (nI i) (fun r9 => q_X12_cell m (nI s) ((r9 + (nI 1)) + a4) (fun r10 => x = r10 ∧ R b' m)))))))))) := by
    intro x b' hR h1 h0
    refine m_us u2 (br1 (m_isSt em n31 (fun _ => br1 (m_mem h.1 (fun _ => br1 ⟨i3, ?_⟩) (fun y => absurd w' y))) (fun y => absurd z' y)))
    rw [nI_clamp (show r < 2 ^ 31 by omega)]
    refine m_in0 o5.1 (by omega) (fun y => br1 ?_) (fun y => br00 ⟨h0 y, hR⟩)
    have y' := y
    obtain ⟨k, hk, rfl⟩ := y
    unfold q_X12_memberAt
    rw [mAt]
    simp only [nI_add]
    refine m_cell (by omega) (rws s hs) (by omega) ⟨?_, hR⟩
    rw [h1 y' k hk rfl]
    congr 2
    omega
  unfold q_X10_has
  have e8' : b 8 (nI r).toNatClampNeg = nI (nt (m 5 r)) := by rw [nI_clamp (show r < 2 ^ 31 by omega), e8]; exact o5.1
  by_cases y : inN (nt (m 5 r)) a4
  · have yy := (inN_i (by omega)).mpr y
    refine ⟨fun q => absurd q yy.1, fun _ => ⟨i3, fun q => absurd (e8' ▸ q) yy.2, fun _ => br1 ?_⟩⟩
    have y' := y
    obtain ⟨k, hk, rfl⟩ := y
    refine b_row sr hs (fun b' f' r' => s_ownValue (dgs s hs).D r' (by omega) (by omega) (by omega) ?_)
    exact ref (nI (dg (srch p) s (7 + 4 * (3 * r + i) + k))) b' (h.fr (FRb.r52 f') FRm.rf) (fun _ k' _ e => by rw [(nI_eq (by omega) (by omega)).mp e]) (fun q => absurd y' q)
  · have fin := ref (-2) b h (fun q => absurd q y) (fun _ => rfl)
    exact ⟨fun _ => br00 fin, fun q => ⟨i3, fun _ => br00 fin, fun q2 => absurd ((inN_i (by omega)).mp ⟨q, e8' ▸ q2⟩) y⟩⟩
theorem t_letter {b m : hp_H} (h : R b m) (a1 a2 a3 : Int32) : q_X11_letter b a1 a2 a3 (fun r b' => q_X12_letter m a1 a2 a3 (fun r' => r = r' ∧ R b' m)) := by
  unfold q_X11_letter q_X12_letter
  rcases h.c with ⟨n1, n2⟩ | ⟨u1, u2, p, q, sr⟩
  · exact b_nus n1 (br00 (m_nus n2 (br00 ⟨rfl, h⟩)))
  obtain ⟨n4, eb, em, dgs, rws, -⟩ := sr.n
  obtain ⟨-, -, ⟨c1, c2, c3⟩, -⟩ := h.1.n
  have n31 : gN (srch p) < 2 ^ 31 := by omega
  refine b_us u1 (br1 (b_has u1 eb n31 (fun z => br1 ?_) (fun z => br00 (m_us u2 (br1 (m_isSt em n31 (fun y => absurd y z) (fun _ => br00 ⟨rfl, h⟩)))))))
  refine b_ch c1 (by omega) (fun w => br1 ?_) (fun w => br00 (m_us u2 (br1 (m_isSt em n31 (fun _ => br1 (m_ch c2 (by omega) (fun y => absurd y w) (fun _ => br00 ⟨rfl, h⟩))) (fun y => absurd z y)))))
  have z' := z
  have w' := w
  obtain ⟨s, hs, rfl⟩ := z
  obtain ⟨c, hc, rfl⟩ := w
  have d3 := ((dgs s hs).2.1 c (by omega)).1
  refine b_row sr hs (fun b' f' r' => ?_)
  have hR : R b' m := h.fr (FRb.r52 f') FRm.rf
  have ref : ∀ (x : Int32), (∀ k, k < dg (srch p) s (42 + 4 * c) → a3 = nI k → x = nI (dg (srch p) s (43 + 4 * c + k))) → (¬ inN (dg (srch p) s (42 + 4 * c)) a3 → x = -1) → q_X12_hasStates m (fun r1 => (r1 = 0 → x = -5 ∧ R b' m) ∧ (¬ r1 = 0 → q_X12_isState m (nI s) (fun r3 => (r3 = 0 → x = -2 ∧ R b' m) ∧ (¬ r3 = 0 → q_X12_isChannel m (nI c) (fun r5 => (r5 = 0 → x = -2 ∧ R b' m) ∧ (¬ r5 = 0 → q_X12_channelAt (nI c) (fun r7 => q_X12_cell m (nI s) r7 (fun r8 => q_X12_in a3 (nI 0) (r8 - (nI 1)) (fun r9 => (r9 = 0 → x = -1 ∧ R b' m) ∧ (¬ r9 = 0 → q_X12_channelAt (nI c) (fun r11 => q_X12_cell m (nI s) ((r11 + (nI 1)) + a3) (fun r12 => x = r12 ∧ R b' m)))))))))))) := by
    intro x h1 h0
    refine m_us u2 (br1 (m_isSt em n31 (fun _ => br1 (m_ch c2 (by omega) (fun _ => br1 ?_) (fun y => absurd w' y))) (fun y => absurd z' y)))
    unfold q_X12_channelAt
    rw [cAt]
    refine m_cell (by omega) (rws s hs) (by omega) (m_in0 rfl (by omega) (fun y => br1 ?_) (fun y => br00 ⟨h0 y, hR⟩))
    obtain ⟨k, hk, rfl⟩ := y
    simp only [nI_add]
    refine m_cell (by omega) (rws s hs) (by omega) ⟨?_, hR⟩
    rw [h1 k hk rfl]
    congr 2
    omega
  by_cases y : inN (dg (srch p) s (42 + 4 * c)) a3
  · have yy := (inN_i (by omega)).mpr y
    refine ⟨fun q => absurd q yy.1, fun _ => s_held (dgs s hs).D r' (by omega) ⟨fun q => absurd q yy.2, fun _ => ?_⟩⟩
    have y' := y
    obtain ⟨k, hk, rfl⟩ := y
    refine s_letterAt (dgs s hs).D r' (by omega) (by omega) ?_
    exact ref (nI (dg (srch p) s (43 + 4 * c + k))) (fun k' _ e => by rw [(nI_eq (by omega) (by omega)).mp e]) (fun q => absurd y' q)
  · have fin := ref (-1) (fun k hk e => absurd ⟨k, hk, e⟩ y) (fun _ => rfl)
    exact ⟨fun _ => fin, fun q => s_held (dgs s hs).D r' (by omega) ⟨fun _ => fin, fun q2 => absurd ((inN_i (by omega)).mp ⟨q, q2⟩) y⟩⟩
theorem t_moves {b m : hp_H} (h : R b m) (a1 : Int32) : q_X11_moves b a1 (fun r => q_X12_moves m a1 (fun r' => r = r' ∧ R b m)) := by
  unfold q_X11_moves q_X12_moves
  rcases h.c with ⟨n1, n2⟩ | ⟨u1, u2, p, q, sr⟩
  · exact b_nus n1 (br00 (m_nus n2 (br00 ⟨rfl, h⟩)))
  obtain ⟨n4, eb, em, dgs, rws, -⟩ := sr.n
  have n31 : gN (srch p) < 2 ^ 31 := by omega
  refine b_us u1 (br1 (b_has u1 eb n31 (fun z => br1 ?_) (fun z => br00 (m_us u2 (br1 (m_isSt em n31 (fun y => absurd y z) (fun _ => br00 ⟨rfl, h⟩)))))))
  have z' := z
  obtain ⟨s, hs, rfl⟩ := z
  obtain ⟨-, f2, -⟩ := sr.f
  unfold q_X2_movesFrom q_X12_movesOf
  rw [nI_add]
  refine ⟨nu_in (by omega) (by decide), nu_in (by omega) (by decide), m_us u2 (br1 (m_isSt em n31 (fun _ => br1 ⟨nu_in (by omega) (by decide), nu_in (by omega) (by decide), ?_, h⟩) (fun y => absurd z' y)))⟩
  rw [nI_clamp (show s + 1 < 2 ^ 31 by omega), nI_clamp (show s < 2 ^ 31 by omega), (f2 s (by omega)).1, (f2 s (by omega)).2, (f2 (s + 1) (by omega)).1, (f2 (s + 1) (by omega)).2]
theorem t_depth {b m : hp_H} (h : R b m) (a1 : Int32) : q_X11_depth b a1 (fun r => q_X12_depth m a1 (fun r' => r = r' ∧ R b m)) := by
  unfold q_X11_depth q_X12_depth
  rcases h.c with ⟨n1, n2⟩ | ⟨u1, u2, p, q, sr⟩
  · exact b_nus n1 (br00 (m_nus n2 (br00 ⟨rfl, h⟩)))
  obtain ⟨n4, eb, em, dgs, rws, -⟩ := sr.n
  have n31 : gN (srch p) < 2 ^ 31 := by omega
  refine b_us u1 (br1 (b_has u1 eb n31 (fun z => br1 ?_) (fun z => br00 (m_us u2 (br1 (m_isSt em n31 (fun y => absurd y z) (fun _ => br00 ⟨rfl, h⟩)))))))
  have z' := z
  obtain ⟨s, hs, rfl⟩ := z
  obtain ⟨⟨v, pv, ft, ab, am, -⟩, -⟩ := sr
  refine ⟨nu_in (by omega) (by decide), m_us u2 (br1 (m_isSt em n31 (fun _ => br1 ⟨nu_in (by omega) (by decide), ?_, h⟩) (fun y => absurd z' y)))⟩
  rw [nI_clamp (show s < 2 ^ 31 by omega), (ab.2.2.2.2.2.2.2.2.1 s hs).2.2, (am.2.2.2.2.2.2.1 s hs).2.2]
theorem t_came {b m : hp_H} (h : R b m) (a1 a2 : Int32) : q_X11_came b a1 a2 (fun r => q_X12_came m a1 a2 (fun r' => r = r' ∧ R b m)) := by
  unfold q_X11_came q_X12_came
  rcases h.c with ⟨n1, n2⟩ | ⟨u1, u2, p, q, sr⟩
  · exact b_nus n1 (br00 (m_nus n2 (br00 ⟨rfl, h⟩)))
  obtain ⟨n4, eb, em, dgs, rws, -⟩ := sr.n
  have n31 : gN (srch p) < 2 ^ 31 := by omega
  refine b_us u1 (br1 (b_has u1 eb n31 (fun z => br1 ?_) (fun z => br00 (m_us u2 (br1 (m_isSt em n31 (fun y => absurd y z) (fun _ => br00 ⟨rfl, h⟩)))))))
  have z' := z
  obtain ⟨s, hs, rfl⟩ := z
  obtain ⟨⟨v, pv, ft, ab, am, -⟩, -⟩ := sr
  have i4 : vp_in (nI s) 400 := nu_in (by omega) (by decide)
  have e2 : nI 1 = nI 2 - nI 1 := by decide
  rw [nI_clamp (show s < 2 ^ 31 by omega), (ab.2.2.2.2.2.2.2.2.1 s hs).1, (ab.2.2.2.2.2.2.2.2.1 s hs).2.1, (am.2.2.2.2.2.2.1 s hs).1, (am.2.2.2.2.2.2.1 s hs).2.1]
  refine ⟨fun q => ⟨i4, ?_⟩, fun q => ⟨i4, ?_⟩, fun q => ?_⟩
  · refine m_us u2 (br1 (m_isSt em n31 (fun _ => br1 ?_) (fun y => absurd z' y)))
    rw [i_X12_in, q]
    exact ⟨fun y => absurd y (by decide), fun _ => ⟨fun _ => ⟨i4, rfl, h⟩, fun y => absurd rfl y⟩⟩
  · refine m_us u2 (br1 (m_isSt em n31 (fun _ => br1 ?_) (fun y => absurd z' y)))
    rw [i_X12_in, q]
    exact ⟨fun y => absurd y (by decide), fun _ => ⟨fun y => absurd y (by decide), fun _ => ⟨i4, rfl, h⟩⟩⟩
  · refine m_us u2 (br1 (m_isSt em n31 (fun _ => br1 ?_) (fun y => absurd z' y)))
    rw [e2]
    refine m_in0 rfl (by decide) (fun y => ?_) (fun _ => br00 ⟨rfl, h⟩)
    obtain ⟨k, hk, rfl⟩ := y
    rcases (show k = 0 ∨ k = 1 by omega) with rfl | rfl
    · exact absurd rfl q.1
    · exact absurd rfl q.2
theorem t_fault {b m : hp_H} (h : R b m) (a1 : Int32) : q_X11_fault b a1 (fun r => q_X12_fault_ m a1 (fun r' => r = r' ∧ R b m)) := by
  unfold q_X11_fault q_X12_fault_
  have e2 : nI 3 = nI 4 - nI 1 := by decide
  by_cases y : inN 4 a1
  case neg =>
    have fin : q_X12_in a1 (nI 0) (nI 3) (fun r1 => (r1 = 0 → (-3 : Int32) = -3 ∧ R b m) ∧ (¬ r1 = 0 → q_X12_hasStates m (fun r3 => (r3 = 0 → (-3 : Int32) = -5 ∧ R b m) ∧ (¬ r3 = 0 → ((m 0 46) = 0 → (-3 : Int32) = -1 ∧ R b m) ∧ (¬ (m 0 46) = 0 → (a1 = 0 → (-3 : Int32) = m 0 47 ∧ R b m) ∧ (¬ a1 = 0 → (a1 = (nI 1) → (-3 : Int32) = m 0 48 ∧ R b m) ∧ (¬ a1 = (nI 1) → (a1 = (nI 2) → (-3 : Int32) = m 0 49 ∧ R b m) ∧ (¬ a1 = (nI 2) → (-3 : Int32) = m 0 50 ∧ R b m)))))))) := by
      rw [e2]
      exact m_in0 rfl (by decide) (fun z => absurd z y) (fun _ => br00 ⟨rfl, h⟩)
    refine ⟨fun _ => fin, fun c1 => ⟨fun c2 => absurd ((inN_i (N := 4) (by decide)).mp ⟨c1, fun z => ?_⟩) y, fun _ => fin⟩⟩
    exact absurd (Int32.le_trans z c2) (by decide)
  obtain ⟨k, hk, rfl⟩ := y
  rw [nI_leI (by omega) (by decide)]
  refine ⟨fun z => absurd z (nI_pos (by omega)), fun _ => ⟨fun _ => ?_, fun z => by omega⟩⟩
  have inn : ∀ {Q : Int32 → Prop}, Q (nI 1) → q_X12_in (nI k) (nI 0) (nI 3) Q := by
    intro Q hQ
    rw [e2]
    exact m_in0 rfl (by decide) (fun _ => hQ) (fun y => absurd ⟨k, hk, rfl⟩ y)
  rcases h.c with ⟨n1, n2⟩ | ⟨u1, u2, p, q, sr⟩
  · exact b_nus n1 (br00 (inn (br1 (m_nus n2 (br00 ⟨rfl, h⟩)))))
  obtain ⟨⟨v, pv, ft, ab, am, -⟩, -⟩ := sr
  obtain ⟨w, a1, a2, a3, a4, a5, a6, -⟩ := ab
  obtain ⟨w', c1, c2, c3, c4, -⟩ := am
  refine b_us u1 (br1 ?_)
  by_cases f : srch p 0 46 = 0
  · obtain ⟨x4, x5, x6, x7⟩ := a5 f
    rw [x4, x5, x6, x7]
    have fin : q_X12_in (nI k) (nI 0) (nI 3) (fun r1 => (r1 = 0 → (-1 : Int32) = -3 ∧ R b m) ∧ (¬ r1 = 0 → q_X12_hasStates m (fun r3 => (r3 = 0 → (-1 : Int32) = -5 ∧ R b m) ∧ (¬ r3 = 0 → ((m 0 46) = 0 → (-1 : Int32) = -1 ∧ R b m) ∧ (¬ (m 0 46) = 0 → (nI k = 0 → (-1 : Int32) = m 0 47 ∧ R b m) ∧ (¬ nI k = 0 → (nI k = (nI 1) → (-1 : Int32) = m 0 48 ∧ R b m) ∧ (¬ nI k = (nI 1) → (nI k = (nI 2) → (-1 : Int32) = m 0 49 ∧ R b m) ∧ (¬ nI k = (nI 2) → (-1 : Int32) = m 0 50 ∧ R b m)))))))) := inn (br1 (m_us u2 (br1 ⟨fun _ => ⟨rfl, h⟩, fun z => absurd (by rw [c3]; exact f) z⟩)))
    exact ⟨fun _ => fin, fun _ => fin, fun _ => fin, fun _ => fin⟩
  · obtain ⟨x4, x5, x6, x7, -⟩ := a6 f
    obtain ⟨y4, y5, y6, y7⟩ := c4 f
    rw [x4, x5, x6, x7, y4, y5, y6, y7, c3]
    refine ⟨fun z => ?_, fun z => ?_, fun z => ?_, fun z => ?_⟩
    · exact inn (br1 (m_us u2 (br1 ⟨fun z => absurd z f, fun _ => ⟨fun _ => ⟨rfl, h⟩, fun y => absurd z y⟩⟩)))
    · refine inn (br1 (m_us u2 (br1 ⟨fun z => absurd z f, fun _ => ⟨fun y => ?_, fun _ => ⟨fun _ => ⟨rfl, h⟩, fun y => absurd z y⟩⟩⟩)))
      rw [z] at y; exact absurd y (by decide)
    · refine inn (br1 (m_us u2 (br1 ⟨fun z => absurd z f, fun _ => ⟨fun y => ?_, fun _ => ⟨fun y => ?_, fun _ => ⟨fun _ => ⟨rfl, h⟩, fun y => absurd z y⟩⟩⟩⟩)))
      · rw [z] at y; exact absurd y (by decide)
      · rw [z] at y; exact absurd y (by decide)
    · exact inn (br1 (m_us u2 (br1 ⟨fun z => absurd z f, fun _ => ⟨fun y => absurd y z.1, fun _ => ⟨fun y => absurd y z.2.1, fun _ => ⟨fun y => absurd y z.2.2, fun _ => ⟨rfl, h⟩⟩⟩⟩⟩)))
theorem R.e35 {b m : hp_H} (h : R b m) : b 35 2 = m 0 35 ∧ b 35 1 = m 0 34 := by
  rcases h.2 with ⟨⟨g1, g2, g3, g4, g5, g6⟩, z⟩ | ⟨p, q, ⟨v, pv, ft, ab, am, hq, e33, e34, dv⟩⟩
  · exact ⟨by rw [g3, g6], by rw [g2, g5]⟩
  · exact ⟨by rw [ab.2.2.2.1, am.2.1], by rw [ab.2.2.1, e34]⟩
theorem t_count {b m : hp_H} (h : R b m) (a1 : Int32) : q_X11_count b a1 (fun r => q_X12_count m a1 (fun r' => r = r' ∧ R b m)) := by
  obtain ⟨e2, e1⟩ := h.e35
  obtain ⟨-, ⟨-, ⟨f3, f12, f1, f15, f23, -⟩, -⟩, ⟨-, o⟩, -, -⟩ := h.1
  unfold q_X11_count q_X12_count q_X11_asNumber
  rw [nI_clamp (show 0 < 2 ^ 31 by decide), f3, f12, f1, f15, f23, o, e2, e1]
  have ne : ∀ {k j : Nat}, a1 = nI k → k < 2 ^ 31 → j < 2 ^ 31 → k ≠ j → ¬ a1 = nI j := fun e hk hj h z => h ((nI_eq hk hj).mp (e.symm.trans z))
  refine ⟨fun z => ⟨nu_in (by decide) (by decide), ?_⟩, fun z => ?_, fun z => ?_, fun z => ?_, fun z => ?_, fun z => ?_, fun z => ?_, fun z => ?_, fun z => ?_⟩
  case refine_9 =>
    obtain ⟨z0, z1, z2, z3, z4, z5, z6, z7⟩ := z
    exact ⟨fun y => absurd y z0, fun y => absurd y z1, fun y => absurd y z2, fun y => absurd y z3, fun y => absurd y z4, fun y => absurd y z5, fun y => absurd y z6, fun y => absurd y z7, fun _ => ⟨rfl, h⟩⟩
  case refine_8 =>
    refine ⟨fun c => ?_, fun c => ?_⟩ <;> refine ⟨fun y => absurd y (ne z (by decide) (by decide) (by decide)), fun y => absurd y (ne z (by decide) (by decide) (by decide)), fun y => absurd y (ne z (by decide) (by decide) (by decide)), fun y => absurd y (ne z (by decide) (by decide) (by decide)), fun y => absurd y (ne z (by decide) (by decide) (by decide)), fun y => absurd y (ne z (by decide) (by decide) (by decide)), fun y => absurd y (ne z (by decide) (by decide) (by decide)), fun _ => ?_, fun y => absurd z y.2.2.2.2.2.2.2⟩
    · exact ⟨fun _ => ⟨rfl, h⟩, fun y => absurd c y⟩
    · exact ⟨fun y => absurd y c, fun _ => ⟨rfl, h⟩⟩
  · exact ⟨fun _ => ⟨rfl, h⟩, fun y => absurd y (ne z (by decide) (by decide) (by decide)), fun y => absurd y (ne z (by decide) (by decide) (by decide)), fun y => absurd y (ne z (by decide) (by decide) (by decide)), fun y => absurd y (ne z (by decide) (by decide) (by decide)), fun y => absurd y (ne z (by decide) (by decide) (by decide)), fun y => absurd y (ne z (by decide) (by decide) (by decide)), fun y => absurd y (ne z (by decide) (by decide) (by decide)), fun y => absurd z y.1⟩
  · exact ⟨fun y => absurd y (ne z (by decide) (by decide) (by decide)), fun _ => ⟨rfl, h⟩, fun y => absurd y (ne z (by decide) (by decide) (by decide)), fun y => absurd y (ne z (by decide) (by decide) (by decide)), fun y => absurd y (ne z (by decide) (by decide) (by decide)), fun y => absurd y (ne z (by decide) (by decide) (by decide)), fun y => absurd y (ne z (by decide) (by decide) (by decide)), fun y => absurd y (ne z (by decide) (by decide) (by decide)), fun y => absurd z y.2.1⟩
  · exact ⟨fun y => absurd y (ne z (by decide) (by decide) (by decide)), fun y => absurd y (ne z (by decide) (by decide) (by decide)), fun _ => ⟨rfl, h⟩, fun y => absurd y (ne z (by decide) (by decide) (by decide)), fun y => absurd y (ne z (by decide) (by decide) (by decide)), fun y => absurd y (ne z (by decide) (by decide) (by decide)), fun y => absurd y (ne z (by decide) (by decide) (by decide)), fun y => absurd y (ne z (by decide) (by decide) (by decide)), fun y => absurd z y.2.2.1⟩
  · exact ⟨fun y => absurd y (ne z (by decide) (by decide) (by decide)), fun y => absurd y (ne z (by decide) (by decide) (by decide)), fun y => absurd y (ne z (by decide) (by decide) (by decide)), fun _ => ⟨rfl, h⟩, fun y => absurd y (ne z (by decide) (by decide) (by decide)), fun y => absurd y (ne z (by decide) (by decide) (by decide)), fun y => absurd y (ne z (by decide) (by decide) (by decide)), fun y => absurd y (ne z (by decide) (by decide) (by decide)), fun y => absurd z y.2.2.2.1⟩
  · exact ⟨fun y => absurd y (ne z (by decide) (by decide) (by decide)), fun y => absurd y (ne z (by decide) (by decide) (by decide)), fun y => absurd y (ne z (by decide) (by decide) (by decide)), fun y => absurd y (ne z (by decide) (by decide) (by decide)), fun _ => ⟨rfl, h⟩, fun y => absurd y (ne z (by decide) (by decide) (by decide)), fun y => absurd y (ne z (by decide) (by decide) (by decide)), fun y => absurd y (ne z (by decide) (by decide) (by decide)), fun y => absurd z y.2.2.2.2.1⟩
  · exact ⟨fun y => absurd y (ne z (by decide) (by decide) (by decide)), fun y => absurd y (ne z (by decide) (by decide) (by decide)), fun y => absurd y (ne z (by decide) (by decide) (by decide)), fun y => absurd y (ne z (by decide) (by decide) (by decide)), fun y => absurd y (ne z (by decide) (by decide) (by decide)), fun _ => ⟨rfl, h⟩, fun y => absurd y (ne z (by decide) (by decide) (by decide)), fun y => absurd y (ne z (by decide) (by decide) (by decide)), fun y => absurd z y.2.2.2.2.2.1⟩
  · exact ⟨fun y => absurd y (ne z (by decide) (by decide) (by decide)), fun y => absurd y (ne z (by decide) (by decide) (by decide)), fun y => absurd y (ne z (by decide) (by decide) (by decide)), fun y => absurd y (ne z (by decide) (by decide) (by decide)), fun y => absurd y (ne z (by decide) (by decide) (by decide)), fun y => absurd y (ne z (by decide) (by decide) (by decide)), fun _ => ⟨rfl, h⟩, fun y => absurd y (ne z (by decide) (by decide) (by decide)), fun y => absurd z y.2.2.2.2.2.2.1⟩
