/-! ===== who moved; move, observe, search ===== -/
theorem mvc_v {p : hp_H} {x y z : Int32} (v : VP p) (h : MVr p x y z) : (x = -1 ∧ y = -1 ∧ z = -1 ∧ mvc x y z = -1) ∨ ∃ r i t, r < nt (p 0 4) ∧ i < nt (p 4 r) ∧ r < 3 ∧ i < 3 ∧ t < 24 ∧ x = nI r ∧ y = nI i ∧ z = nI t ∧ mvc x y z = nI (72 * r + 24 * i + t) := by
  rcases h with ⟨a, b, c⟩ | ⟨r, i, t, h1, h2, h3, a, b, c⟩
  · left
    refine ⟨a, b, c, ?_⟩
    unfold mvc
    rw [if_pos a]
  · right
    have r3 := v.2.1.1.2
    have i3 := (v.2.1.2.2.1 r h1).1.2
    have t3 := v.2.2.2.2.1.1.2
    refine ⟨r, i, t, h1, h2, by omega, by omega, by omega, a, b, c, ?_⟩
    rw [a, b, c, mvc_n (by omega), pk_mul, nI_add, pk_mul, nI_add]
    congr 1
    omega
section
variable {p b : hp_H} {k : Nat} {x y z : Int32} {Q : Int32 → Prop}
theorem s_roleOf (v : VP p) (h : MVr p x y z) (e : b 41 k = mvc x y z) (hk : k < 6000) (hQ : Q x) : q_X2_roleOfMove b (nI k) Q := by
  unfold q_X2_roleOfMove
  have i6 : vp_in (nI k) 6000 := nu_in hk (by decide)
  rw [nI_clamp (show k < 2 ^ 31 by omega), e]
  rcases mvc_v v h with ⟨e1, e2, e3, e4⟩ | ⟨r, i, t, -, -, r3, i3, t24, e1, e2, e3, e4⟩
  · rw [e4]; exact ⟨i6, fun _ => e1 ▸ hQ, fun w => absurd rfl w⟩
  · rw [e4, nu_div (by omega) (by decide) (by decide)]
    exact ⟨i6, fun w => absurd w (fun w => (nu_m1 (by omega)).mp w), fun _ => ⟨i6, by rw [show (72 * r + 24 * i + t) / 72 = r by omega, ← e1]; exact hQ⟩⟩
theorem s_memberOf (v : VP p) (h : MVr p x y z) (e : b 41 k = mvc x y z) (hk : k < 6000) (hQ : Q y) : q_X2_memberOfMove b (nI k) Q := by
  unfold q_X2_memberOfMove
  have i6 : vp_in (nI k) 6000 := nu_in hk (by decide)
  rw [nI_clamp (show k < 2 ^ 31 by omega), e]
  rcases mvc_v v h with ⟨e1, e2, e3, e4⟩ | ⟨r, i, t, -, -, r3, i3, t24, e1, e2, e3, e4⟩
  · rw [e4]; exact ⟨i6, fun _ => e2 ▸ hQ, fun w => absurd rfl w⟩
  · rw [e4, nu_div (by omega) (by decide) (by decide), nu_rem (by omega) (by decide) (by decide)]
    exact ⟨i6, fun w => absurd w (fun w => (nu_m1 (by omega)).mp w), fun _ => ⟨i6, by rw [show (72 * r + 24 * i + t) / 24 % 3 = i by omega, ← e2]; exact hQ⟩⟩
theorem s_stepOf (v : VP p) (h : MVr p x y z) (e : b 41 k = mvc x y z) (hk : k < 6000) (hQ : Q z) : q_X2_stepOfMove b (nI k) Q := by
  unfold q_X2_stepOfMove
  have i6 : vp_in (nI k) 6000 := nu_in hk (by decide)
  rw [nI_clamp (show k < 2 ^ 31 by omega), e]
  rcases mvc_v v h with ⟨e1, e2, e3, e4⟩ | ⟨r, i, t, -, -, r3, i3, t24, e1, e2, e3, e4⟩
  · rw [e4]; exact ⟨i6, fun _ => e3 ▸ hQ, fun w => absurd rfl w⟩
  · rw [e4, nu_rem (by omega) (by decide) (by decide)]
    exact ⟨i6, fun w => absurd w (fun w => (nu_m1 (by omega)).mp w), fun _ => ⟨i6, by rw [show (72 * r + 24 * i + t) % 24 = t by omega, ← e3]; exact hQ⟩⟩
/-- a bit of its own for each member; none of what is lost -/
theorem s_moverBit (v : VP p) (h : MVr p x y z) (e : b 41 k = mvc x y z) (hk : k < 6000) (h0 : x = -1 → Q (nI 0)) (h1 : ∀ r i, r < nt (p 0 4) → i < nt (p 4 r) → r < 3 → i < 3 → x = nI r → y = nI i → Q (nI (2 ^ (3 * r + i)))) : q_X2_moverBit b (nI k) Q := by
  unfold q_X2_moverBit
  have i6 : vp_in (nI k) 6000 := nu_in hk (by decide)
  rw [nI_clamp (show k < 2 ^ 31 by omega), e]
  rcases mvc_v v h with ⟨e1, e2, e3, e4⟩ | ⟨r, i, t, hr, hi, r3, i3, t24, e1, e2, e3, e4⟩
  · rw [e4]; exact ⟨i6, fun _ => h0 e1, fun w => absurd rfl w⟩
  · rw [e4, nu_div (by omega) (by decide) (by decide), show (72 * r + 24 * i + t) / 24 = 3 * r + i by omega, nu_shl (by omega) (by rw [Nat.one_mul]; exact Nat.pow_lt_pow_right (by decide) (by omega)), Nat.one_mul]
    exact ⟨i6, fun w => absurd w (fun w => (nu_m1 (by omega)).mp w), fun _ => ⟨i6, h1 r i hr hi r3 i3 e1 e2⟩⟩
end
theorem m_move {p b m : hp_H} {q s : Nat} {a2 a3 : Int32} {Q : Int32 → Prop} (u2 : Um m) (sr : SRu p q b m) (hs : s < gN (srch p)) (h0 : ¬ inN (nt (srch p 31 (s + 1)) - nt (srch p 31 s)) a2 → Q (-2))
    (h1 : ∀ i, i < nt (srch p 31 (s + 1)) - nt (srch p 31 s) → a2 = nI i → (a3 = nI 0 → Q (srch p 32 (nt (srch p 31 s) + i))) ∧ (a3 = nI 1 → Q (srch p 33 (nt (srch p 31 s) + i))) ∧ (a3 = nI 2 → Q (srch p 34 (nt (srch p 31 s) + i))) ∧ (a3 = nI 3 → Q (srch p 35 (nt (srch p 31 s) + i))) ∧ ((¬ a3 = nI 0 ∧ ¬ a3 = nI 1 ∧ ¬ a3 = nI 2 ∧ ¬ a3 = nI 3) → Q (-3))) : q_X12_move m (nI s) a2 a3 Q := by
  obtain ⟨n4, eb, em, dgs, rws, -⟩ := sr.n
  obtain ⟨f1, f2, f3⟩ := sr.f
  obtain ⟨l1, l2, l3, l4, l5⟩ := f1.r hs
  have n31 : gN (srch p) < 2 ^ 31 := by omega
  unfold q_X12_move
  refine m_us u2 (br1 (m_isSt em n31 (fun _ => br1 ?_) (fun y => absurd ⟨s, hs, rfl⟩ y)))
  unfold q_X12_movesOf
  rw [nI_add, nI_clamp (show s + 1 < 2 ^ 31 by omega), nI_clamp (show s < 2 ^ 31 by omega), (f2 s (by omega)).2, (f2 (s + 1) (by omega)).2]
  refine ⟨nu_in (by omega) (by decide), nu_in (by omega) (by decide), ?_⟩
  have ed : srch p 31 (s + 1) - srch p 31 s = nI (nt (srch p 31 (s + 1)) - nt (srch p 31 s)) := by
    rw [l1, l2, nt_nI (by omega), nt_nI (by omega)]; exact pk_sub l3 
  refine m_in0 ed (by omega) (fun y => br1 ⟨nu_in (by omega) (by decide), ?_⟩) (fun y => br00 (h0 y))
  obtain ⟨i, hi, rfl⟩ := y
  rintro w rfl
  have ew : srch p 31 s + nI i = nI (nt (srch p 31 s) + i) := by rw [l1, nI_add, nt_nI (by omega)]
  rw [ew, nI_clamp (show nt (srch p 31 s) + i < 2 ^ 31 by omega)]
  obtain ⟨-, -, g32, g33, g34, g35⟩ := f3 (nt (srch p 31 s) + i) (by omega)
  rw [g32, g33, g34, g35]
  obtain ⟨z0, z1, z2, z3, z4⟩ := h1 i hi rfl
  have i6 : vp_in (nI (nt (srch p 31 s) + i)) 6000 := nu_in (by omega) (by decide)
  exact ⟨fun y => ⟨i6, z0 y⟩, fun y => ⟨i6, z1 y⟩, fun y => ⟨i6, z2 y⟩, fun y => ⟨i6, z3 y⟩, z4⟩
theorem t_move {b m : hp_H} (h : R b m) (a1 a2 a3 : Int32) : q_X11_move b a1 a2 a3 (fun r => q_X12_move m a1 a2 a3 (fun r' => r = r' ∧ R b m)) := by
  rcases h.c with ⟨n1, n2⟩ | ⟨u1, u2, p, q, sr⟩
  · unfold q_X11_move q_X12_move
    exact b_nus n1 (br00 (m_nus n2 (br00 ⟨rfl, h⟩)))
  obtain ⟨n4, eb, em, dgs, rws, -⟩ := sr.n
  have n31 : gN (srch p) < 2 ^ 31 := by omega
  have v := sr.1.1
  unfold q_X11_move
  refine b_us u1 (br1 (b_has u1 eb n31 (fun z => br1 ?_) (fun z => br00 ?_)))
  case refine_2 =>
    unfold q_X12_move
    exact m_us u2 (br1 (m_isSt em n31 (fun y => absurd y z) (fun _ => br00 ⟨rfl, h⟩)))
  obtain ⟨s, hs, rfl⟩ := z
  obtain ⟨f1, f2, f3⟩ := sr.f
  obtain ⟨l1, l2, l3, l4, l5⟩ := f1.r hs
  have ne : ∀ {k j : Nat}, a3 = nI k → k < 2 ^ 31 → j < 2 ^ 31 → k ≠ j → ¬ a3 = nI j := fun e hk hj h z => h ((nI_eq hk hj).mp (e.symm.trans z))
  have no : ¬ inN (nt (srch p 31 (s + 1)) - nt (srch p 31 s)) a2 → q_X12_move m (nI s) a2 a3 (fun r' => -2 = r' ∧ R b m) := fun y => m_move u2 sr hs (fun _ => ⟨rfl, h⟩) (fun i hi e => absurd ⟨i, hi, e⟩ y)
  unfold q_X2_movesFrom
  rw [nI_add, nI_clamp (show s + 1 < 2 ^ 31 by omega), nI_clamp (show s < 2 ^ 31 by omega), (f2 s (by omega)).1, (f2 (s + 1) (by omega)).1]
  have ed : srch p 31 (s + 1) - srch p 31 s = nI (nt (srch p 31 (s + 1)) - nt (srch p 31 s)) := by
    rw [l1, l2, nt_nI (by omega), nt_nI (by omega)]; exact pk_sub l3
  rw [ed]
  refine ⟨fun c => no (fun y => ((inN_i (by omega)).mpr y).1 c), fun c => ⟨nu_in (by omega) (by decide), nu_in (by omega) (by decide), fun c2 => ⟨nu_in (by omega) (by decide), ?_⟩, fun c2 => no (fun y => ((inN_i (by omega)).mpr y).2 (lt_le.mp c2))⟩⟩
  obtain ⟨i, hi, rfl⟩ := (inN_i (N := nt (srch p 31 (s + 1)) - nt (srch p 31 s)) (by omega)).mp ⟨c, fun z => absurd c2 (lt_le.mpr z)⟩
  rintro w rfl
  have ew : srch p 31 s + nI i = nI (nt (srch p 31 s) + i) := by rw [l1, nI_add, nt_nI (by omega)]
  rw [ew]
  obtain ⟨g37, g41, -⟩ := f3 (nt (srch p 31 s) + i) (by omega)
  have mv := (f1.1.2.2.2.2 (nt (srch p 31 s) + i) (by omega)).2.2
  have ii : ∀ {k : Nat}, nI i = nI k → k < nt (srch p 31 (s + 1)) - nt (srch p 31 s) → k = i := fun e hk => ((nI_eq (by omega) (by omega)).mp e).symm
  refine ⟨fun y => ⟨nu_in (by omega) (by decide), ?_⟩, fun y => ?_, fun y => ?_, fun y => ?_, fun y => ?_⟩
  · rw [nI_clamp (show nt (srch p 31 s) + i < 2 ^ 31 by omega), g37]
    refine m_move u2 sr hs (fun z => absurd ⟨i, hi, rfl⟩ z) (fun k hk e => ?_)
    rw [ii e hk]
    exact ⟨fun _ => ⟨rfl, h⟩, fun z => absurd z (ne y (by decide) (by decide) (by decide)), fun z => absurd z (ne y (by decide) (by decide) (by decide)), fun z => absurd z (ne y (by decide) (by decide) (by decide)), fun z => absurd y z.1⟩
  · refine s_roleOf v mv g41 (by omega) (m_move u2 sr hs (fun z => absurd ⟨i, hi, rfl⟩ z) (fun k hk e => ?_))
    rw [ii e hk]
    exact ⟨fun z => absurd z (ne y (by decide) (by decide) (by decide)), fun _ => ⟨rfl, h⟩, fun z => absurd z (ne y (by decide) (by decide) (by decide)), fun z => absurd z (ne y (by decide) (by decide) (by decide)), fun z => absurd y z.2.1⟩
  · refine s_memberOf v mv g41 (by omega) (m_move u2 sr hs (fun z => absurd ⟨i, hi, rfl⟩ z) (fun k hk e => ?_))
    rw [ii e hk]
    exact ⟨fun z => absurd z (ne y (by decide) (by decide) (by decide)), fun z => absurd z (ne y (by decide) (by decide) (by decide)), fun _ => ⟨rfl, h⟩, fun z => absurd z (ne y (by decide) (by decide) (by decide)), fun z => absurd y z.2.2.1⟩
  · refine s_stepOf v mv g41 (by omega) (m_move u2 sr hs (fun z => absurd ⟨i, hi, rfl⟩ z) (fun k hk e => ?_))
    rw [ii e hk]
    exact ⟨fun z => absurd z (ne y (by decide) (by decide) (by decide)), fun z => absurd z (ne y (by decide) (by decide) (by decide)), fun z => absurd z (ne y (by decide) (by decide) (by decide)), fun _ => ⟨rfl, h⟩, fun z => absurd y z.2.2.2⟩
  · refine m_move u2 sr hs (fun z => absurd ⟨i, hi, rfl⟩ z) (fun k hk e => ?_)
    exact ⟨fun z => absurd z y.1, fun z => absurd z y.2.1, fun z => absurd z y.2.2.1, fun z => absurd z y.2.2.2, fun _ => ⟨rfl, h⟩⟩
theorem EQ.pv {b p m : hp_H} (pv : PV p m) (e : EQ b m) : EQ b p := by
  obtain ⟨h, e0, e4, e11, e15, e21, e30⟩ := pv
  simp only [EQ, EQp, EQf, EQe, EQn, h 1 (by decide) (by decide), h 2 (by decide) (by decide), h 3 (by decide) (by decide), h 4 (by decide) (by decide), h 5 (by decide) (by decide), h 6 (by decide) (by decide), h 7 (by decide) (by decide), h 8 (by decide) (by decide), h 9 (by decide) (by decide), h 10 (by decide) (by decide), h 11 (by decide) (by decide), h 12 (by decide) (by decide), h 13 (by decide) (by decide), h 14 (by decide) (by decide), h 15 (by decide) (by decide), h 16 (by decide) (by decide), h 17 (by decide) (by decide), h 18 (by decide) (by decide), h 19 (by decide) (by decide), h 20 (by decide) (by decide), h 21 (by decide) (by decide), h 22 (by decide) (by decide), h 23 (by decide) (by decide), h 24 (by decide) (by decide), h 25 (by decide) (by decide), e0, e4, e11, e15, e21, e30] at e
  exact e
theorem PV.rf {m : hp_H} : PV m m := ⟨fun _ _ _ => rfl, rfl, rfl, rfl, rfl, rfl, rfl⟩
theorem FN.pm {m m' : hp_H} (f : FN m m') : PM m m' := by
  have g : ∀ j, j < 33 → m' 0 j = m 0 j := fun j hj => f.2 j (by omega) (by omega) (by omega) (by omega) (by omega)
  exact ⟨fun k h1 h2 => f.1 k h1 (by omega), g 0 (by decide), g 4 (by decide), g 11 (by decide), g 15 (by decide), g 21 (by decide), g 30 (by decide), g 31 (by decide)⟩
theorem FY.pb {b b' : hp_H} (f : FY b b') : PB b b' := by
  have g : ∀ k, k < 35 → k ≠ 16 → b' k = b k := fun k h1 h2 => f k h2 (by omega) (by omega) (by omega) (by omega)
  exact ⟨fun k hk => by unfold PBc at hk; exact f k (by omega) (by omega) (by omega) (by omega) (by omega), by rw [g 3 (by decide) (by decide)], by rw [g 12 (by decide) (by decide)], by rw [g 1 (by decide) (by decide)], by rw [g 15 (by decide) (by decide)], by rw [g 23 (by decide) (by decide)], by rw [g 1 (by decide) (by decide)], by rw [g 2 (by decide) (by decide)], by rw [g 7 (by decide) (by decide)], by rw [f 64 (by decide) (by decide) (by decide) (by decide) (by decide)], by rw [g 15 (by decide) (by decide)]⟩
theorem FRb.o21 {b b' : hp_H} (f : ∀ k, k ≠ 21 → b' k = b k) : FRb b b' := fun k _ h _ _ => f k h
theorem t_search {b m : hp_H} (h : R b m) : q_X11_search b (fun r b' => q_X12_search m (fun r' m' => r = r' ∧ R b' m')) := by
  have t := h.1
  unfold q_X11_search
  rcases h.2 with ⟨g, z11⟩ | ⟨p, q, sd⟩
  · -- no search is there
    have v := t.1
    refine s_isSearchable v t.2.1 (fun ft b1 f1 us => br1 ?_) (fun ft b1 f1 => br00 ?_)
    case refine_2 =>
      exact m_search v PV.rf (fun ft' => absurd ft' ft) (fun _ m' f' => ⟨rfl, h.fr (FRb.o21 f1) (fun k hk => f' k (by omega))⟩)
    have eq1 : EQ b1 m := EQ.fs (fun k hk => f1 k (by omega)) t.2.1
    refine ⟨fun h6 => ∃ q, FY b1 h6 ∧ AB m (srch m) q h6 ∧ (srch m 0 34 = 0 → gN (srch m) < q), ⟨fun _ => s_searchNew v eq1 us (fun b' q fy ab hq => ⟨q, fy, ab, hq⟩), fun z => absurd (by rw [f1 35 (by decide)]; exact g.1) z⟩, ?_⟩
    rintro h6 ⟨q, fy, ab, hq⟩
    have tb : T0 h6 m := t.cg ((FRb.o21 f1).pb.tr fy.pb) PM.rf (by rw [fy hp_V (by decide) (by decide) (by decide) (by decide) (by decide), f1 hp_V (by decide)]) (by rw [fy hp_V (by decide) (by decide) (by decide) (by decide) (by decide), f1 hp_V (by decide)])
    have z64 : h6 64 11 = nI 0 := by rw [fy 64 (by decide) (by decide) (by decide) (by decide) (by decide), f1 64 (by decide)]; exact z11
    have ref : ∀ x, x = cif (srch m 0 34 = 0) (srch m 0 35) (-7) → q_X12_search m (fun r' m' => x = r' ∧ R h6 m') := by
      rintro x rfl
      refine m_search v PV.rf (fun _ m' q' fn am hq' e33 e34 => ⟨rfl, tb.cg PB.rf fn.pm rfl rfl, Or.inr ⟨m, min q q', v, fn.pv PV.rf, ft, ab.mono (Nat.min_le_left _ _), am.mono (Nat.min_le_right _ _), fun c => ?_, e33, e34, Or.inl z64⟩⟩) (fun ft' => absurd ft ft')
      have := hq c
      have := hq' c
      omega
    rw [ab.2.2.1, ab.2.2.2.1]
    exact ⟨fun c => ref _ (by rw [cif_t c]), fun c => ref _ (by rw [cif_f c])⟩
  · -- the search is there
    have sd' := sd
    obtain ⟨v, pv, ft, ab, am, hq, e33, e34, dv⟩ := sd
    refine s_isSearchable v (t.2.1.pv pv) (fun _ b1 f1 us => br1 ?_) (fun ft' b1 f1 => absurd ft ft')
    have e35 : b1 35 = b 35 := f1 35 (by decide)
    refine hp_jn0h_i ⟨fun z => ?_, fun _ => ?_⟩
    · rw [e35, ab.2.1] at z; exact absurd z (by decide)
    have ref : ∀ x, x = cif (srch p 0 34 = 0) (srch p 0 35) (-7) → q_X12_search m (fun r' m' => x = r' ∧ R b1 m') := by
      rintro x rfl
      refine m_search v pv (fun _ m' q' fn am' hq' e33 e34 => ⟨rfl, t.cg (FRb.o21 f1).pb fn.pm (by rw [f1 hp_V (by decide)]) (by rw [f1 hp_V (by decide)]), Or.inr ⟨p, min q q', v, fn.pv pv, ft, (ab.mono (Nat.min_le_left _ _)).fs (fun k h1 h2 => f1 k (by omega)), am'.mono (Nat.min_le_right _ _), fun c => ?_, e33, e34, ?_⟩⟩) (fun ft' => absurd ft ft')
      · have := hq c
        have := hq' c
        omega
      · rw [f1 64 (by decide)]
        rcases dv with dv | ⟨d1, d2, d3⟩
        · exact Or.inl dv
        · exact Or.inr ⟨d1, d2, d3.fr (by rw [f1 64 (by decide)]) (f1 65 (by decide)) (f1 68 (by decide)) (f1 hp_V (by decide)) t.2.2.2.2 (fn.2 31 (by decide) (by decide) (by decide) (by decide) (by decide)) (fn.1 26 (by decide) (by decide))⟩
    dsimp only
    rw [e35, ab.2.2.1, ab.2.2.2.1]
    exact ⟨fun c => ref _ (by rw [cif_t c]), fun c => ref _ (by rw [cif_f c])⟩
theorem b_refuse {b m : hp_H} {a : Int32} {Q : Int32 → Prop} (t : T0 b m) (h2 : ¬ inN (nt (m 0 15)) a → Q (-2)) (h4 : ∀ e, e < nt (m 0 15) → a = nI e → ¬ m 17 e = 0 → Q (-4)) (h0 : ∀ e, e < nt (m 0 15) → a = nI e → m 17 e = 0 → Q (nI 0)) : q_X11_refusalOfPlain b a Q := by
  obtain ⟨⟨n1, n2, n3⟩, -, -, -, -, e22⟩ := t.n
  unfold q_X11_refusalOfPlain
  refine b_ex n1 (by omega) (fun z => br1 ?_) (fun z => br00 (h2 z))
  obtain ⟨e, he, rfl⟩ := z
  unfold q_X1_isOwned
  rw [nI_clamp (show e < 2 ^ 31 by omega), e22]
  exact ⟨nu_in (by omega) (by decide), (t.1.2.2.2.1.2 e he).2.1, fun z => h0 e he rfl z, fun z => h4 e he rfl z⟩
theorem t_observe {b m : hp_H} (h : R b m) (a1 : Int32) : q_X11_observe b a1 (fun r b' => q_X12_observe m a1 (fun r' m' => r = r' ∧ R b' m')) := by
  have t := h.1
  obtain ⟨⟨n1, n2, n3⟩, -, -, -, -, -⟩ := t.n
  have vo := t.2.2.2.1
  have eo := t.2.2.1
  have o8 := vo.1.2
  have e64 : b 64 0 = nI (nt (m 0 31)) := by rw [eo.2]; exact vo.1.1
  have e31 : m 0 31 = nI (nt (m 0 31)) := vo.1.1
  unfold q_X11_observe q_X12_observe
  refine b_refuse t (fun z => ⟨fun y => absurd y (by decide), fun _ => m_ex n2 (by omega) (fun y => absurd y z) (fun _ => br00 ⟨rfl, h⟩)⟩) (fun e he e1 z => ⟨fun y => absurd y (by decide), fun _ => m_ex n2 (by omega) (fun _ => br1 ?_) (fun y => absurd ⟨e, he, e1⟩ y)⟩) (fun e he e1 z => br00 ?_)
  · rw [e1, nI_clamp (show e < 2 ^ 31 by omega)]
    exact ⟨nu_in (by omega) (by decide), fun y => absurd y z, fun _ => ⟨rfl, h⟩⟩
  subst e1
  -- the reference: whether it is observed already
  have ref : ∀ (x : Int32) (b' : hp_H), ((∃ k, k < nt (m 0 31) ∧ m 26 k = nI e) → x = -3 ∧ R b' m) → ((¬ ∃ k, k < nt (m 0 31) ∧ m 26 k = nI e) → (nt (m 0 31) = 8 → x = -6 ∧ R b' m) ∧ (¬ nt (m 0 31) = 8 → ∀ m', m' = hp_up (hp_up m 26 (nt (m 0 31)) (nI e)) 0 31 (nI (nt (m 0 31) + 1)) → x = nI (nt (m 0 31) + 1) ∧ R b' m')) → q_X12_isExpr m (nI e) (fun r1 => (r1 = 0 → x = -2 ∧ R b' m) ∧ (¬ r1 = 0 → vp_in (nI e) 80 ∧ ((m 17 (nI e).toNatClampNeg) = 0 → hp_lp1 (fun v5 B4 => ((m 0 31) ≤ v5 → ((m 0 31) = (nI 8) → x = -6 ∧ R b' m) ∧ (¬ (m 0 31) = (nI 8) → vp_in (m 0 31) 8 ∧ ∀ h8 : hp_H, h8 = hp_up m 26 (m 0 31).toNatClampNeg (nI e) → ∀ h9 : hp_H, h9 = hp_up h8 0 31 ((h8 0 31) + (nI 1)) → x = h9 0 31 ∧ R b' h9)) ∧ (¬ (m 0 31) ≤ v5 → vp_in v5 8 ∧ ((m 26 v5.toNatClampNeg) = nI e → x = -3 ∧ R b' m) ∧ (¬ (m 26 v5.toNatClampNeg) = nI e → ∀ v11 : Int32, v11 = v5 + (nI 1) → B4 v11))) (nI 0)) ∧ (¬ (m 17 (nI e).toNatClampNeg) = 0 → x = -4 ∧ R b' m))) := by
    intro x b' h1 h0
    refine m_ex n2 (by omega) (fun _ => br1 ⟨nu_in (by omega) (by decide), ?_⟩) (fun y => absurd ⟨e, he, rfl⟩ y)
    rw [nI_clamp (show e < 2 ^ 31 by omega)]
    refine ⟨fun _ => ?_, fun y => absurd z y⟩
    refine hp_lp1_ind (fun v => ∃ j, v = nI j ∧ j ≤ nt (m 0 31) ∧ ∀ k, k < j → ¬ m 26 k = nI e) (fun v => 8 - nt v) ?_ ⟨0, rfl, by omega, fun k hk => by omega⟩
    rintro v ⟨j, rfl, hj, hk⟩
    have le : (m 0 31 ≤ nI j) ↔ nt (m 0 31) ≤ j := isn_leR vo.1 (by decide) (by omega)
    rw [le, nI_clamp (show j < 2 ^ 31 by omega)]
    refine ⟨fun c => ?_, fun c => ⟨nu_in (by omega) (by decide), fun y => h1 ⟨j, by omega, y⟩, fun y => ?_⟩⟩
    · have nn : ¬ ∃ k, k < nt (m 0 31) ∧ m 26 k = nI e := fun ⟨k, k1, k2⟩ => hk k (by omega) k2
      have e8 : (m 0 31 = nI 8) ↔ nt (m 0 31) = 8 := isn_eqc vo.1 (by decide) (by decide)
      rw [e8]
      refine ⟨fun y => (h0 nn).1 y, fun y => ⟨isn_in vo.1 (by decide) (by omega), ?_⟩⟩
      rintro h8 rfl h9 e9
      have ex : h9 0 31 = nI (nt (m 0 31) + 1) := by
        rw [e9]; simp only [hp_at, if_true, upd, Nat.reduceEqDiff, if_false]
        rw [e31, nI_add, nt_nI (by omega)]
      rw [ex]
      refine (h0 nn).2 y h9 ?_
      rw [e9, nt_def]
      have : hp_up m 26 (nt (m 0 31)) (nI e) 0 31 + nI 1 = nI (nt (m 0 31) + 1) := by
        simp only [hp_at, Nat.reduceEqDiff, if_false]
        rw [e31, nI_add, nt_nI (by omega)]
      rw [this]
    · rintro w rfl
      rw [nI_add]
      refine ⟨⟨j + 1, rfl, by omega, fun k hk2 => ?_⟩, by rw [nt_nI (by omega), nt_nI (by omega)]; omega⟩
      rcases (show k < j ∨ k = j by omega) with w | w
      · exact hk k w
      · subst w; exact y
  unfold q_X0_observes
  refine hp_lp1_ind (fun v => ∃ j, v = nI j ∧ j ≤ nt (m 0 31) ∧ ∀ k, k < j → ¬ m 26 k = nI e) (fun v => 8 - nt v) ?_ ⟨0, rfl, by omega, fun k hk => by omega⟩
  rintro v ⟨j, rfl, hj, hk⟩
  rw [e64, nI_leI (by omega) (by omega), nI_clamp (show j < 2 ^ 31 by omega), eo.1]
  refine ⟨fun c => br00 ?_, fun c => ⟨nu_in (by omega) (by decide), fun y => br1 (ref (-3) b (fun _ => ⟨rfl, h⟩) (fun y2 => absurd ⟨j, by omega, y⟩ y2)), fun y => ?_⟩⟩
  case refine_2 =>
    rintro w rfl
    rw [nI_add]
    refine ⟨⟨j + 1, rfl, by omega, fun k hk2 => ?_⟩, by rw [nt_nI (by omega), nt_nI (by omega)]; omega⟩
    rcases (show k < j ∨ k = j by omega) with w | w
    · exact hk k w
    · subst w; exact y
  have nn : ¬ ∃ k, k < nt (m 0 31) ∧ m 26 k = nI e := fun ⟨k, k1, k2⟩ => hk k (by omega) k2
  rw [nI_eq (by omega) (by decide)]
  refine ⟨fun y => ref (-6) b (fun q => absurd q nn) (fun _ => ⟨fun _ => ⟨rfl, h⟩, fun y2 => absurd y y2⟩), fun y => ?_⟩
  unfold q_X0_addObserved
  rintro v1 rfl h2 rfl
  rw [e64, nI_add, nI_clamp (show nt (m 0 31) < 2 ^ 31 by omega)]
  refine ⟨nu_in (by omega) (by decide), ?_⟩
  rintro h3 rfl b4 eb
  have ex : b4 64 0 = nI (nt (m 0 31) + 1) := by rw [eb]; simp [hp_at, upd]
  rw [ex]
  refine ref _ b4 (fun q => absurd q nn) (fun _ => ⟨fun y2 => absurd y2 y, fun _ m' em => ⟨rfl, ?_⟩⟩)
  have ob : ∀ k, k ≠ 64 → k ≠ 66 → b4 k = b k := by intro k k1 k2; rw [eb]; simp [hp_at, k1, k2]
  have om : ∀ k, k ≠ 0 → k ≠ 26 → m' k = m k := by intro k k1 k2; rw [em]; simp [hp_at, k1, k2]
  have om0 : ∀ j, j ≠ 31 → m' 0 j = m 0 j := by intro j hj; rw [em]; simp [hp_at, upd, hj]
  have z11 : b4 64 11 = nI 0 := by rw [eb]; simp [hp_at, upd]
  have pvm : PV m m' := ⟨fun k k1 k2 => om k (by omega) (by omega), om0 0 (by decide), om0 4 (by decide), om0 11 (by decide), om0 15 (by decide), om0 21 (by decide), om0 30 (by decide)⟩
  have tt : T0 b4 m' := by
    obtain ⟨⟨vs, vr, vc, vx, vt, v30⟩, eq, -, -, dv⟩ := t
    refine ⟨⟨VPs_cg (om 1 (by decide) (by decide)) (om 2 (by decide) (by decide)) (om 3 (by decide) (by decide)) (om0 0 (by decide)) vs, VPr_cg (om 4 (by decide) (by decide)) (om 5 (by decide) (by decide)) (om 6 (by decide) (by decide)) (om 7 (by decide) (by decide)) (om 8 (by decide) (by decide)) (om0 4 (by decide)) vr, VPc_cg (om 10 (by decide) (by decide)) (om 11 (by decide) (by decide)) (om 12 (by decide) (by decide)) (om0 11 (by decide)) vc, ?_, ?_, ?_⟩, ?_, ?_, ?_, ?_⟩
    · exact VPx_mono (om 13 (by decide) (by decide)) (om 14 (by decide) (by decide)) (om 15 (by decide) (by decide)) (om 16 (by decide) (by decide)) (om 17 (by decide) (by decide)) (om0 15 (by decide)) (by rw [om0 0 (by decide)]; exact Nat.le_refl _) (by rw [om0 4 (by decide)]; exact Nat.le_refl _) (by rw [om0 11 (by decide)]; exact Nat.le_refl _) (fun r _ => by rw [om 4 (by decide) (by decide)]; exact Nat.le_refl _) (fun r _ => by rw [om 5 (by decide) (by decide)]; exact Nat.le_refl _) vx
    · exact VPt_mono (om 18 (by decide) (by decide)) (om 19 (by decide) (by decide)) (om 20 (by decide) (by decide)) (om 21 (by decide) (by decide)) (om 22 (by decide) (by decide)) (om 23 (by decide) (by decide)) (om 24 (by decide) (by decide)) (om 25 (by decide) (by decide)) (om0 21 (by decide)) (by rw [om0 0 (by decide)]; exact Nat.le_refl _) (by rw [om0 4 (by decide)]; exact Nat.le_refl _) (by rw [om0 11 (by decide)]; exact Nat.le_refl _) (by rw [om0 15 (by decide)]; exact Nat.le_refl _) (fun r _ => by rw [om 5 (by decide) (by decide)]; exact Nat.le_refl _) vt
    · rw [om0 30 (by decide)]; exact v30
    · have e1 : EQ b4 m := EQ.fs (fun k hk => ob k (by omega) (by omega)) eq
      obtain ⟨hh, e0, e4, e11, e15, e21, e30⟩ := pvm
      simp only [EQ, EQp, EQf, EQe, EQn, hh 1 (by decide) (by decide), hh 2 (by decide) (by decide), hh 3 (by decide) (by decide), hh 4 (by decide) (by decide), hh 5 (by decide) (by decide), hh 6 (by decide) (by decide), hh 7 (by decide) (by decide), hh 8 (by decide) (by decide), hh 9 (by decide) (by decide), hh 10 (by decide) (by decide), hh 11 (by decide) (by decide), hh 12 (by decide) (by decide), hh 13 (by decide) (by decide), hh 14 (by decide) (by decide), hh 15 (by decide) (by decide), hh 16 (by decide) (by decide), hh 17 (by decide) (by decide), hh 18 (by decide) (by decide), hh 19 (by decide) (by decide), hh 20 (by decide) (by decide), hh 21 (by decide) (by decide), hh 22 (by decide) (by decide), hh 23 (by decide) (by decide), hh 24 (by decide) (by decide), hh 25 (by decide) (by decide), e0, e4, e11, e15, e21, e30]
      exact e1
    · refine ⟨?_, ?_⟩
      · rw [eb, em]; simp [hp_at]; rw [eo.1]
      · rw [ex, em]; simp [hp_at, upd]
    · unfold VPo
      have x31 : m' 0 31 = nI (nt (m 0 31) + 1) := by rw [em]; simp [hp_at, upd]
      rw [x31, nt_nI (by omega), om 17 (by decide) (by decide), om0 15 (by decide)]
      refine ⟨isn_i (by omega) (by decide), fun k hk => ?_⟩
      have x26 : m' 26 k = if k = nt (m 0 31) then nI e else m 26 k := by rw [em]; simp [hp_at, upd]
      rw [x26]
      by_cases w : k = nt (m 0 31)
      · rw [if_pos w, nt_nI (by omega)]; exact ⟨isn_i (by omega) (by decide), he, z⟩
      · rw [if_neg w]; exact vo.2 k (by omega)
    · unfold DV0; rw [ob hp_V (by decide) (by decide)]; exact dv
  refine ⟨tt, ?_⟩
  rcases h.2 with ⟨g, _⟩ | ⟨p, q, ⟨v, pv, ft, ab, am, hq, e33, e34, dv⟩⟩
  · left
    unfold GR0 at *
    rw [ob 35 (by decide) (by decide), om0 33 (by decide), om0 34 (by decide), om0 35 (by decide)]
    exact ⟨g, z11⟩
  · right
    exact ⟨p, q, v, ⟨fun k k1 k2 => by rw [om k (by omega) (by omega)]; exact pv.1 k k1 k2, by rw [om0 0 (by decide)]; exact pv.2.1, by rw [om0 4 (by decide)]; exact pv.2.2.1, by rw [om0 11 (by decide)]; exact pv.2.2.2.1, by rw [om0 15 (by decide)]; exact pv.2.2.2.2.1, by rw [om0 21 (by decide)]; exact pv.2.2.2.2.2.1, by rw [om0 30 (by decide)]; exact pv.2.2.2.2.2.2⟩, ft, ab.fs (fun k k1 k2 => ob k (by omega) (by omega)), am.f0 (fun j j1 j2 => om0 j (by omega)) (fun k k1 k2 => om k (by omega) (by omega)), hq, by rw [om0 33 (by decide)]; exact e33, by rw [om0 34 (by decide)]; exact e34, Or.inl z11⟩
