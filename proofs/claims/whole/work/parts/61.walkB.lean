/-! ===== the class's walk and what it finds ===== -/
set_option maxHeartbeats 2000000 in
theorem s_walk {p b h : hp_H} {W : Nat → Prop} {fr ev : Int32} {en lw nm : Nat → Nat} {cl : Nat → Prop} {pa op : Nat → Nat} {cnt s : Nat} {Q : hp_H → Prop} (bm : BM p b) (hev : EVB p ev) (hW : ∀ s, s < gN (srch p) → (¬ b 54 s = 0 ↔ W s)) (k0 : KH p W fr ev b h en lw nm cl pa 0 op 0 cnt) (hs : s < gN (srch p)) (Ws : W s) (h0 : en s = 0)
    (hQ : ∀ h' en' lw' nm' cl' pa' op' cnt', KH p W fr ev b h' en' lw' nm' cl' pa' 0 op' 0 cnt' → ¬ en' s = 0 → (∀ t, ¬ en t = 0 → ¬ en' t = 0) → Q h') : q_X3_walk h (nI s) Q := by
  have bm' := bm
  obtain ⟨⟨v, eq, n4, e35, -⟩, fs, f36, f37⟩ := bm
  have k0' := k0
  obtain ⟨tj, fr0, ⟨g13, g14, g15, g16, g19⟩, c58, c61, c62, c63, res⟩ := k0
  obtain ⟨d1, d2, d3⟩ := TJ_bd tj hs h0
  have kG := fs.1.2.2.1
  unfold q_X3_walk
  refine s_enter (p := p) (L := 0) (M := 0) (cnt := cnt) g13 g14 g15 (by rw [fr0 36 (by decide) (by decide)]; exact f36 s (by omega)) (by omega) (by omega) (by omega) (by omega) (fun h1 f1 e13 e14 e15 f53 y58 y59 y60 y62 y63 => ?_)
  have tj1 := TJ_en tj Ws hs h0 (fs.r hs).2.2.1 (Or.inl ⟨rfl, rfl⟩)
  have k1 := KH_en k0' fs hs h0 tj1 f1 e13 e14 e15 f53 y58 y59 (fun i hi q => by
    rw [y60]
    by_cases y : i = s
    · rw [if_pos y, y, va_e]; exact (fs.r hs).1
    · rw [if_neg y, va_n _ _ y]
      rw [va_n _ _ y] at q
      exact ((c58 i hi).2 q).2) y62 y63
  have sm0 : sm (fun s => nt (srch p 31 (s + 1)) - nt (srch p 31 s) + 1) (gN (srch p)) ≤ 6400 := by
    have q1 := sm_mv fs (gN (srch p)) (Nat.le_refl _)
    have q2 := (fs.2.2.2.1 (gN (srch p)) (Nat.le_refl _)).2
    omega
  refine hp_lp1h_ind (fun x h' => ∃ a en' lw' nm' cl' pa' L' op' M' cnt' r, x = nI a ∧ a ≤ 6400 ∧ KH p W fr ev b h' en' lw' nm' cl' pa' L' op' M' cnt' ∧ RR (srch p) (gN (srch p)) en' nm' pa' L' r ∧ a + sm r (gN (srch p)) ≤ 6400 ∧ ¬ en' s = 0 ∧ ∀ t, ¬ en t = 0 → ¬ en' t = 0) (fun x h' => 6400 - nt x) ?_ ⟨0, _, _, _, _, _, _, _, _, _, fun s => nt (srch p 31 (s + 1)) - nt (srch p 31 s) + 1, rfl, by omega, k1, ⟨fun t _ _ => rfl, fun j hj => ?_⟩, by omega, by rw [va_e]; omega, fun t ht => ?_⟩
  case refine_2 =>
    have : j = 0 := by omega
    subst this
    rw [va_e, va_e]
  case refine_3 =>
    by_cases y : t = s
    · rw [y, va_e]; omega
    · rw [va_n _ _ y]; exact ht
  rintro x h' ⟨a, en', lw', nm', cl', pa', L', op', M', cnt', r, rfl, ha, kh, rr, smr, es, em⟩
  have kh' := kh
  obtain ⟨tj', fr', ⟨g13', g14', g15', g16', g19'⟩, c58', c61', c62', c63', res'⟩ := kh
  obtain ⟨bL, bM, bC⟩ := TJ_b2 tj'
  have tk := tj'
  obtain ⟨a1, a2, a3, a4, o1, o2, o3, p1, p2, p3, f, ge, ch, il, jk, kl⟩ := tk
  have done : L' = 0 → Q h' := by
    intro z
    subst z
    have M0 : M' = 0 := by
      rcases (show M' = 0 ∨ 0 < M' by omega) with w | w
      · exact w
      · have := (kl _ (o1 0 w).1 (o1 0 w).2).1.1; omega
    subst M0
    exact hQ h' _ _ _ _ _ _ _ kh' es em
  have Lr : 0 < L' → 1 ≤ sm r (gN (srch p)) := by
    intro z
    have := rr.2 0 z
    have q := sm_ge (f := r) (i := pa' 0) (gN (srch p)) (a1 _ (p1 0 z).1).1
    omega
  rw [nI_leI (by decide) (by omega), g13']
  refine ⟨fun c => done (by omega), fun c => ⟨fun c2 => done (by rw [← nI_0, nI_leI (by omega) (by decide)] at c2; omega), fun c2 => ?_⟩⟩
  have L1 : 0 < L' := by
    rcases (show L' = 0 ∨ 0 < L' by omega) with w | w
    · rw [w] at c2; exact absurd (by decide) c2
    · exact w
  have lr := Lr L1
  clear done Lr
  obtain ⟨K, rfl⟩ : ∃ K, L' = K + 1 := ⟨L' - 1, by omega⟩
  obtain ⟨x1, x2⟩ := p1 K (by omega)
  obtain ⟨xN, xW, xC⟩ := a1 _ x1
  obtain ⟨l1, l2, l3, l4, l5⟩ := fs.r xN
  obtain ⟨fa, fb, fc⟩ := f _ x1
  obtain ⟨i1, i2, u, u1, u2, u3⟩ := il _ x1 x2
  have rx : r (pa' K) = nt (srch p 31 (pa' K + 1)) - nm' (pa' K) + 1 := rr.2 K (by omega)
  rw [pk_sub (by omega), show K + 1 - 1 = K by omega, nI_clamp (show K < 2 ^ 31 by omega)]
  refine ⟨nu_in (by omega) (by decide), ?_⟩
  rintro v7 rfl
  rw [c62' K (by omega), nI_add, nI_clamp (show pa' K + 1 < 2 ^ 31 by omega), nI_clamp (show pa' K < 2 ^ 31 by omega), fr' 36 (by decide) (by decide), f36 (pa' K + 1) (by omega), ((c58' _ xN).2 x1).2]
  have ix : vp_in (nI (pa' K)) 400 := nu_in (by omega) (by decide)
  have el : (srch p 31 (pa' K + 1) ≤ nI (nm' (pa' K))) ↔ nt (srch p 31 (pa' K + 1)) ≤ nm' (pa' K) := isn_leR (b := 6000) ⟨l2, by omega⟩ (by decide) (by omega)
  rw [el]
  refine ⟨ix, nu_in (by omega) (by decide), ?_⟩
  -- a turn more
  have step : ∀ h10 en2 lw2 nm2 cl2 pa2 L2 op2 M2 cnt2 r2, KH p W fr ev b h10 en2 lw2 nm2 cl2 pa2 L2 op2 M2 cnt2 → RR (srch p) (gN (srch p)) en2 nm2 pa2 L2 r2 → sm r2 (gN (srch p)) + 1 ≤ sm r (gN (srch p)) → ¬ en2 s = 0 → (∀ t, ¬ en t = 0 → ¬ en2 t = 0) → ∀ v16, v16 = nI a + nI 1 → (∃ a en' lw' nm' cl' pa' L' op' M' cnt' r, v16 = nI a ∧ a ≤ 6400 ∧ KH p W fr ev b h10 en' lw' nm' cl' pa' L' op' M' cnt' ∧ RR (srch p) (gN (srch p)) en' nm' pa' L' r ∧ a + sm r (gN (srch p)) ≤ 6400 ∧ ¬ en' s = 0 ∧ ∀ t, ¬ en t = 0 → ¬ en' t = 0) ∧ 6400 - nt v16 < 6400 - nt (nI a) := by
    rintro h10 en2 lw2 nm2 cl2 pa2 L2 op2 M2 cnt2 r2 kk rr2 sm2 es2 em2 v16 rfl
    rw [nI_add]
    exact ⟨⟨a + 1, en2, lw2, nm2, cl2, pa2, L2, op2, M2, cnt2, r2, rfl, by omega, kk, rr2, by omega, es2, em2⟩, by rw [nt_nI (by omega), nt_nI (by omega)]; omega⟩
  refine hp_jn0h_i ⟨fun c3 => ?_, fun c3 => ⟨ix, nu_in (by omega) (by decide), ?_⟩⟩
  case refine_2 =>
    obtain ⟨mv1, mv2, -⟩ := fs.1.2.2.2.2 (nm' (pa' K)) (by omega)
    rw [nI_clamp (show nm' (pa' K) < 2 ^ 31 by omega), fr' 37 (by decide) (by decide), (f37 _ (by omega)).1, mv1.1]
    refine s_follow bm' hW kh' rr (by omega) (fun h'' en2 lw2 nm2 pa2 L2 op2 M2 cnt2 r2 kk rr2 sm2 em2 => step h'' en2 lw2 nm2 _ pa2 L2 op2 M2 cnt2 r2 kk rr2 sm2 (em2 s es) (fun t ht => em2 t (em t ht)))
  -- one is done
  have hn : nm' (pa' K) = nt (srch p 31 (pa' K + 1)) := by omega
  intro h11 e11
  have o11 : ∀ k, k ≠ 53 → h11 k = h' k := by intro k hk; rw [e11, hp_at, if_neg hk]
  have o11f : ∀ d, d ≠ 13 → h11 53 d = h' 53 d := by intro d hd; rw [e11]; simp [hp_at, upd, hd]
  have z13 : h11 53 13 = nI K := by rw [e11]; simp [hp_at, upd]
  have smx : sm (va_up r (pa' K) 0) (gN (srch p)) + 1 ≤ sm r (gN (srch p)) := by
    have := (sm_up (f := r) (i := pa' K) (v := 0) (gN (srch p))).1 xN
    omega
  have pne : ∀ j, j < K → pa' j ≠ pa' K := fun j hj z => by have := p2 j K hj (by omega); rw [z] at this; omega
  have rrx : RR (srch p) (gN (srch p)) en' nm' pa' K (va_up r (pa' K) 0) := by
    refine ⟨fun t ht t0 => ?_, fun j hj => ?_⟩
    · rw [va_n _ _ (fun z => x1 (by rw [← z]; exact t0))]; exact rr.1 t ht t0
    · rw [va_n _ _ (pne j hj)]; exact rr.2 j (by omega)
  -- behind handBack
  have back : ∀ h12 lw2, TJ (srch p) W (gN (srch p)) en' lw2 nm' cl' pa' (K + 1) op' M' cnt' → lw2 (pa' K) = lw' (pa' K) → (∀ L'', K = L'' + 1 → lw2 (pa' L'') ≤ lw2 (pa' K)) → (∀ k, k ≠ 59 → h12 k = h11 k) → (∀ t, t < gN (srch p) → ¬ en' t = 0 → h12 59 t = nI (lw2 t)) → vp_in (nI (pa' K)) 400 ∧ vp_in (nI (pa' K)) 400 ∧ ((h12 59 (pa' K)) = (h12 58 (pa' K)) → q_X3_close h12 (nI (pa' K)) (fun h14 => ∀ v16, v16 = nI a + nI 1 → (∃ a en' lw' nm' cl' pa' L' op' M' cnt' r, v16 = nI a ∧ a ≤ 6400 ∧ KH p W fr ev b h14 en' lw' nm' cl' pa' L' op' M' cnt' ∧ RR (srch p) (gN (srch p)) en' nm' pa' L' r ∧ a + sm r (gN (srch p)) ≤ 6400 ∧ ¬ en' s = 0 ∧ ∀ t, ¬ en t = 0 → ¬ en' t = 0) ∧ 6400 - nt v16 < 6400 - nt (nI a))) ∧ (¬ (h12 59 (pa' K)) = (h12 58 (pa' K)) → ∀ v16, v16 = nI a + nI 1 → (∃ a en' lw' nm' cl' pa' L' op' M' cnt' r, v16 = nI a ∧ a ≤ 6400 ∧ KH p W fr ev b h12 en' lw' nm' cl' pa' L' op' M' cnt' ∧ RR (srch p) (gN (srch p)) en' nm' pa' L' r ∧ a + sm r (gN (srch p)) ≤ 6400 ∧ ¬ en' s = 0 ∧ ∀ t, ¬ en t = 0 → ¬ en' t = 0) ∧ 6400 - nt v16 < 6400 - nt (nI a)) := by
    intro h12 lw2 tj2 lx lb o12 c59
    have q58 : ∀ t, t < gN (srch p) → h12 58 t = nI (en' t) ∧ (¬ en' t = 0 → h12 59 t = nI (lw2 t) ∧ h12 60 t = nI (nm' t)) := fun t ht => ⟨by rw [o12 58 (by decide), o11 58 (by decide)]; exact (c58' t ht).1, fun q => ⟨c59 t ht q, by rw [o12 60 (by decide), o11 60 (by decide)]; exact ((c58' t ht).2 q).2⟩⟩
    have qfr : ∀ k, k ≠ 53 → (k < 56 ∨ 63 < k) → h12 k = b k := fun k k1 k2 => by rw [o12 k (by omega), o11 k k1]; exact fr' k k1 k2
    have q53 : h12 53 13 = nI K ∧ h12 53 14 = nI M' ∧ h12 53 15 = nI cnt' ∧ h12 53 16 = ev ∧ h12 53 19 = fr := by
      rw [o12 53 (by decide), o11f 14 (by decide), o11f 15 (by decide), o11f 16 (by decide), o11f 19 (by decide)]; exact ⟨z13, g14', g15', g16', g19'⟩
    have q61 : ∀ t, t < gN (srch p) → (¬ cl' t → h12 61 t = -1) ∧ (cl' t → ∃ r, h12 61 t = nI r ∧ cl' r ∧ r < gN (srch p)) := by rw [o12 61 (by decide), o11 61 (by decide)]; exact c61'
    have q62 : ∀ j, j < K → h12 62 j = nI (pa' j) := fun j hj => by rw [o12 62 (by decide), o11 62 (by decide)]; exact c62' j (by omega)
    have q63 : ∀ j, j < M' → h12 63 j = nI (op' j) := by rw [o12 63 (by decide), o11 63 (by decide)]; exact c63'
    have qr : ∀ t, t < gN (srch p) → (cl' t → (¬ h12 56 t = 0 ↔ GD p (srch p) W fr t) ∧ (¬ h12 57 t = 0 ↔ LD p (srch p) W fr t)) ∧ (¬ cl' t → h12 57 t = 0) := by rw [o12 56 (by decide), o12 57 (by decide), o11 56 (by decide), o11 57 (by decide)]; exact res'
    refine ⟨ix, ix, ?_⟩
    rw [c59 _ xN x1, (q58 _ xN).1, lx, nI_eq (by omega) (by omega)]
    refine ⟨fun c4 => ?_, fun c4 => ?_⟩
    · refine s_close bm' hev tj2 hn (by rw [lx]; exact c4) qfr q53 q58 q61 q62 q63 qr (fun h14 cl2 bo kk => step h14 en' lw2 nm' cl2 pa' K op' bo cnt' _ kk rrx smx es em)
    · have tj3 := TJ_pop tj2 hn (by rw [lx]; exact c4) lb
      exact step h12 en' lw2 nm' cl' pa' K op' M' cnt' _ ⟨tj3, qfr, q53, q58, q61, q62, q63, qr⟩ rrx smx es em
  unfold q_X3_handBack
  rw [z13]
  refine ⟨fun c4 => ?_, fun c4 => ?_⟩
  · have K0 : K = 0 := by rw [← nI_0, nI_leI (by omega) (by decide)] at c4; omega
    refine back h11 lw' tj' rfl (fun L'' z => by omega) (fun k _ => rfl) (fun t ht q => by rw [o11 59 (by decide)]; exact ((c58' t ht).2 q).1)
  · have K1 : 0 < K := by
      rcases (show K = 0 ∨ 0 < K by omega) with w | w
      · rw [w] at c4; exact absurd (by decide) c4
      · exact w
    obtain ⟨J, rfl⟩ : ∃ J, K = J + 1 := ⟨K - 1, by omega⟩
    obtain ⟨y1, y2⟩ := p1 J (by omega)
    obtain ⟨yN, yW, yC⟩ := a1 _ y1
    obtain ⟨j1, j2, j3⟩ := il _ y1 y2
    have iy : vp_in (nI (pa' J)) 400 := nu_in (by omega) (by decide)
    have ne : pa' (J + 1) ≠ pa' J := fun z => pne J (by omega) z.symm
    rw [pk_sub (by omega), show J + 1 - 1 = J by omega, nI_clamp (show J < 2 ^ 31 by omega)]
    refine ⟨nu_in (by omega) (by decide), ?_⟩
    rintro v2 rfl
    rw [o11 62 (by decide), c62' J (by omega), nI_clamp (show pa' J < 2 ^ 31 by omega), nI_clamp (show pa' (J + 1) < 2 ^ 31 by omega), o11 59 (by decide), ((c58' _ xN).2 x1).1, ((c58' _ yN).2 y1).1]
    refine ⟨iy, ix, iy, ?_⟩
    intro h3 e3
    have em' : (if nI (lw' (pa' (J + 1))) < nI (lw' (pa' J)) then nI (lw' (pa' (J + 1))) else nI (lw' (pa' J))) = nI (min (lw' (pa' (J + 1))) (lw' (pa' J))) := by
      by_cases q : lw' (pa' (J + 1)) < lw' (pa' J)
      · rw [if_pos ((nI_ltI (by omega) (by omega)).mpr q), Nat.min_eq_left (by omega)]
      · rw [if_neg (fun y => q ((nI_ltI (by omega) (by omega)).mp y)), Nat.min_eq_right (by omega)]
    rw [em'] at e3
    have tj2 := TJ_lw (x := pa' J) (v := min (lw' (pa' (J + 1))) (lw' (pa' J))) tj' y1 y2 (by omega) (by omega) (by
      by_cases q : lw' (pa' (J + 1)) < lw' (pa' J)
      · exact ⟨u, by omega, u2, (p3 J (J + 1) (by omega) (by omega)).tr u3⟩
      · obtain ⟨w, w1, w2, w3⟩ := j3
        exact ⟨w, by omega, w2, w3⟩)
    have x59 : ∀ t, h3 59 t = if t = pa' J then nI (min (lw' (pa' (J + 1))) (lw' (pa' J))) else h' 59 t := by intro t; rw [e3]; simp [hp_at, upd]; rw [o11 59 (by decide)]
    refine back h3 _ tj2 (va_n _ _ ne) (fun L'' z => ?_) (fun k hk => by rw [e3, hp_at, if_neg hk]) (fun t ht q => ?_)
    · have : L'' = J := by omega
      rw [this, va_e, va_n _ _ ne]; omega
    · rw [x59]
      by_cases y : t = pa' J
      · rw [if_pos y, y, va_e]
      · rw [if_neg y, va_n _ _ y]; exact ((c58' t ht).2 q).1
set_option maxHeartbeats 1000000 in
theorem s_tie {p b : hp_H} {W : Nat → Prop} {fr : Int32} {Q : hp_H → Prop} (bm : BM p b) (hW : ∀ s, s < gN (srch p) → (¬ b 54 s = 0 ↔ W s)) (zf : hp_bz fr)
    (hQ : ∀ h', (∀ k, k ≠ 53 → (k < 56 ∨ 63 < k) → h' k = b k) → (∀ s, s < gN (srch p) → W s → (¬ h' 56 s = 0 ↔ GD p (srch p) W fr s) ∧ (¬ h' 57 s = 0 ↔ LD p (srch p) W fr s)) → Q h') : q_X3_tie b fr Q := by
  have bm' := bm
  obtain ⟨⟨v, eq, n4, e35, -⟩, fs, f36, f37⟩ := bm
  unfold q_X3_tie
  refine ⟨zf, ?_⟩
  intro h1 e1
  refine s_everyone v (EQ.fs (fun k hk => by rw [e1, hp_at, if_neg (by omega)]) eq) (fun ev hev => ?_)
  rintro h3 rfl h4 rfl h5 rfl h6 e6
  have o6 : ∀ k, k ≠ 53 → h6 k = b k := by intro k hk; rw [e6, e1]; simp [hp_at, hk]
  have g6 : h6 53 13 = nI 0 ∧ h6 53 14 = nI 0 ∧ h6 53 15 = nI 0 ∧ h6 53 16 = ev ∧ h6 53 19 = fr := by rw [e6, e1]; simp [hp_at, upd]
  refine hp_lp1h_ind (fun x h => ∃ j, x = nI j ∧ j ≤ gN (srch p) ∧ (∀ k, k ≠ 53 → (k < 56 ∨ 63 < k) → h k = b k) ∧ h 53 = h6 53 ∧ ∀ s, s < j → h 58 s = nI 0 ∧ h 61 s = -1 ∧ h 56 s = nI 0 ∧ h 57 s = nI 0) (fun x h => 400 - nt x) ?_ ⟨0, rfl, by omega, fun k k1 _ => o6 k k1, rfl, fun s hs => by omega⟩
  rintro x h ⟨j, rfl, hj, fr0, f53, z⟩
  have e35' : h 35 2 = nI (gN (srch p)) := by rw [fr0 35 (by decide) (by decide)]; exact e35
  rw [e35', nI_leI (by omega) (by omega), nI_clamp (show j < 2 ^ 31 by omega)]
  refine ⟨fun c => ?_, fun c => ?_⟩
  case refine_2 =>
    have ij : vp_in (nI j) 400 := nu_in (by omega) (by decide)
    refine ⟨ij, ?_⟩
    rintro h21 rfl
    refine ⟨ij, ?_⟩
    rintro h22 rfl
    refine ⟨ij, ?_⟩
    rintro h23 rfl
    refine ⟨ij, ?_⟩
    rintro h24 e24 w rfl
    rw [nI_add]
    refine ⟨⟨j + 1, rfl, by omega, fun k k1 k2 => ?_, ?_, fun s hs => ?_⟩, by rw [nt_nI (by omega), nt_nI (by omega)]; omega⟩
    · rw [e24]; simp [hp_at, show k ≠ 56 by omega, show k ≠ 57 by omega, show k ≠ 58 by omega, show k ≠ 61 by omega]; exact fr0 k k1 k2
    · rw [e24]; simp [hp_at]; exact f53
    · rw [e24]
      simp only [hp_at, Nat.reduceEqDiff, if_true, if_false, upd]
      by_cases y : s = j
      · simp [y]
      · simp [y]; exact z s (by omega)
  -- nothing is entered
  have tj0 : TJ (srch p) W (gN (srch p)) (fun _ => 0) (fun _ => 0) (fun _ => 0) (fun _ => False) (fun _ => 0) 0 (fun _ => 0) 0 0 :=
    ⟨fun s q => absurd rfl q, fun s t q => absurd rfl q, fun v hv => by omega, fun s q => q.elim, fun j hj => by omega, fun i j _ hj => by omega, fun s q => absurd rfl q, fun j hj => by omega, fun i j _ hj => by omega, fun i j _ hj => by omega, fun s q => absurd rfl q, fun s i q => absurd rfl q, fun s i q => q.elim, fun s q => absurd rfl q, fun j u hj => by omega, fun u q => absurd rfl q⟩
  have kh0 : KH p W fr ev b h (fun _ => 0) (fun _ => 0) (fun _ => 0) (fun _ => False) (fun _ => 0) 0 (fun _ => 0) 0 0 := by
    refine ⟨tj0, fr0, by rw [f53]; exact g6, fun s hs => ⟨(z s (by omega)).1, fun q => absurd rfl q⟩, fun s hs => ⟨fun _ => (z s (by omega)).2.1, fun q => q.elim⟩, fun j hj => by omega, fun j hj => by omega, fun s hs => ⟨fun q => q.elim, fun _ => (z s (by omega)).2.2.2⟩⟩
  refine hp_lp1h_ind (fun x h => ∃ j en lw nm cl pa op cnt, x = nI j ∧ j ≤ gN (srch p) ∧ KH p W fr ev b h en lw nm cl pa 0 op 0 cnt ∧ ∀ t, t < j → W t → ¬ en t = 0) (fun x h => 400 - nt x) ?_ ⟨0, _, _, _, _, _, _, _, rfl, by omega, kh0, fun t ht => by omega⟩
  clear kh0 tj0 z f53 fr0 e35' c hj
  clear h j
  rintro x h ⟨j, en, lw, nm, cl, pa, op, cnt, rfl, hj, kh, al⟩
  have kh' := kh
  obtain ⟨tj, fr0, ⟨g13, g14, g15, g16, g19⟩, c58, c61, c62, c63, res⟩ := kh
  have e35' : h 35 2 = nI (gN (srch p)) := by rw [fr0 35 (by decide) (by decide)]; exact e35
  have kl := tj.2.2.2.2.2.2.2.2.2.2.2.2.2.2.2
  rw [e35', nI_leI (by omega) (by omega), nI_clamp (show j < 2 ^ 31 by omega)]
  refine ⟨fun c => hQ h fr0 (fun s hs ws => ?_), fun c => ⟨nu_in (by omega) (by decide), ?_⟩⟩
  · have es := al s (by omega) ws
    have cs : cl s := Classical.byContradiction (fun y => by have := (kl s es y).1.1; omega)
    exact (res s hs).1 cs
  have jN : j < gN (srch p) := by omega
  have next : ∀ h17 en2 lw2 nm2 cl2 pa2 op2 cnt2, KH p W fr ev b h17 en2 lw2 nm2 cl2 pa2 0 op2 0 cnt2 → (∀ t, ¬ en t = 0 → ¬ en2 t = 0) → (W j → ¬ en2 j = 0) → ∀ v20, v20 = nI j + nI 1 → (∃ j en lw nm cl pa op cnt, v20 = nI j ∧ j ≤ gN (srch p) ∧ KH p W fr ev b h17 en lw nm cl pa 0 op 0 cnt ∧ ∀ t, t < j → W t → ¬ en t = 0) ∧ 400 - nt v20 < 400 - nt (nI j) := by
    rintro h17 en2 lw2 nm2 cl2 pa2 op2 cnt2 kk em wj v20 rfl
    rw [nI_add]
    refine ⟨⟨j + 1, en2, lw2, nm2, cl2, pa2, op2, cnt2, rfl, by omega, kk, fun t ht wt => ?_⟩, by rw [nt_nI (by omega), nt_nI (by omega)]; omega⟩
    rcases (show t < j ∨ t = j by omega) with y | y
    · exact em t (al t y wt)
    · rw [y] at wt ⊢; exact wj wt
  have wj := hW j jN
  rw [fr0 54 (by decide) (by decide)]
  refine hp_jn0h_i ⟨fun c2 => next h _ _ _ _ _ _ _ kh' (fun _ q => q) (fun q => absurd c2 (wj.mpr q)), fun c2 => ⟨nu_in (by omega) (by decide), fun c3 => ?_, fun c3 => next h _ _ _ _ _ _ _ kh' (fun _ q => q) (fun _ q => c3 (by rw [(c58 j jN).1, q]; rfl))⟩⟩
  have en0 : en j = 0 := by
    have b2 := (TJ_b2 tj).2.2
    by_cases q : en j = 0
    · exact q
    · have := (tj.1 j q).2.2
      rw [(c58 j jN).1, ← nI_0, nI_eq (by omega) (by decide)] at c3
      exact c3
  exact s_walk bm' hev hW kh' jN (wj.mp c2) en0 (fun h19 en2 lw2 nm2 cl2 pa2 op2 cnt2 kk ej em => next h19 _ _ _ _ _ _ _ kk em (fun _ => ej))
theorem s_firstOfBoth {h : hp_H} {N x1 x2 : Nat} {Q : Int32 → Prop} (e35 : h 35 2 = nI N) (n4 : N ≤ 400) (hQ : ∀ r, LST (fun s => ¬ h x1 s = 0 ∧ ¬ h x2 s = 0) N r → Q r) : q_X3_firstOfBoth x1 x2 h Q := by
  unfold q_X3_firstOfBoth
  refine hp_lp1_ind (fun v => ∃ j, v = nI j ∧ j ≤ N ∧ ∀ t, t < j → ¬ (¬ h x1 t = 0 ∧ ¬ h x2 t = 0)) (fun v => 400 - nt v) ?_ ⟨0, rfl, by omega, fun t ht => by omega⟩
  rintro v ⟨j, rfl, hj, hk⟩
  rw [e35, nI_leI (by omega) (by omega), nI_clamp (show j < 2 ^ 31 by omega)]
  have i4 : ¬ N ≤ j → vp_in (nI j) 400 := fun _ => nu_in (by omega) (by decide)
  refine ⟨fun c => hQ _ (Or.inr ⟨fun t ht => hk t (by omega), rfl⟩), fun c => ⟨i4 c, ?_⟩⟩
  refine ⟨¬ (¬ h x1 j = 0 ∧ ¬ h x2 j = 0), ⟨fun z y => y.1 z, fun z => ⟨i4 c, fun z2 y => y.2 z2, fun z2 => hQ _ (Or.inl ⟨j, by omega, ⟨z, z2⟩, hk, rfl⟩)⟩⟩, fun z => ?_⟩
  rintro w rfl
  rw [nI_add]
  refine ⟨⟨j + 1, rfl, by omega, fun t ht => ?_⟩, by rw [nt_nI (by omega), nt_nI (by omega)]; omega⟩
  rcases (show t < j ∨ t = j by omega) with y | y
  · exact hk t y
  · rw [y]; exact z
/-- where an expression tells 0 -/
def Wz (p : hp_H) (e s : Nat) : Prop := s < gN (srch p) ∧ vl p (srch p) s e = 0
theorem s_again {p b : hp_H} {e : Nat} {fr : Int32} {Q : Int32 → hp_H → Prop} (bm : BM p b) (he : e < nt (p 0 15)) (h17 : p 17 e = 0) (zf : hp_bz fr) (hQ : ∀ r b', FRb b b' → LST (GD p (srch p) (Wz p e) fr) (gN (srch p)) r → Q r b') : q_X3_breakerOfAgain b (nI e) fr Q := by
  have br := bm.1
  obtain ⟨v, eq, n4, e35, -⟩ := br
  have E8 := v.2.2.2.1.1.2
  have i80 : vp_in (nI e) 80 := nu_in (by omega) (by decide)
  have ec : (nI e).toNatClampNeg = e := nI_clamp (by omega)
  have no : NO p (fun x => x = e) := fun x hx => by rw [hx]; exact ⟨he, h17⟩
  unfold q_X3_breakerOfAgain
  refine s_ask v eq he (fun b1 f1 k1 => ?_)
  refine hp_lp1h_ind (fun x h => ∃ j, x = nI j ∧ j ≤ gN (srch p) ∧ (∀ k, k ≠ 16 → k ≠ 21 → k ≠ 52 → k ≠ 54 → h k = b k) ∧ AK p h (fun x => x = e) ∧ ∀ t, t < j → (¬ h 54 t = 0 ↔ vl p (srch p) t e = 0)) (fun x h => 400 - nt x) ?_ ⟨0, rfl, by omega, fun k _ k2 _ _ => f1 k k2, k1, fun t ht => by omega⟩
  rintro x h ⟨j, rfl, hj, fr', ak, hw⟩
  have e35' : h 35 2 = nI (gN (srch p)) := by rw [fr' 35 (by decide) (by decide) (by decide) (by decide)]; exact e35
  have bmh : BM p h := bm.fr (fun k k1 k2 k3 => fr' k k2 k3 (by omega) (by omega))
  rw [e35', nI_leI (by omega) (by omega)]
  refine ⟨fun c => ?_, fun c => ?_⟩
  · refine s_tie (W := Wz p e) bmh (fun s hs => (hw s (by omega)).trans ⟨fun q => ⟨hs, q⟩, fun q => q.2⟩) zf (fun h6 f6 r6 => ?_)
    refine s_firstOfBoth (N := gN (srch p)) (by rw [f6 35 (by decide) (by decide)]; exact e35') n4 (fun r hr => hQ r h6 (fun k k1 k2 k3 k4 => by rw [f6 k (by omega) (by omega)]; exact fr' k k1 k2 k3 (by omega)) (hr.cg (fun s hs => ?_)))
    rw [f6 54 (by decide) (by decide)]
    have q := hw s (by omega)
    refine ⟨fun z => ((r6 s hs ⟨hs, q.mp z.1⟩).1).mp z.2, fun z => ⟨q.mpr z.1.2, ((r6 s hs z.1).1).mpr z⟩⟩
  · refine s_lookAt bmh.1 ak no (by omega) (fun b2 f2 v2 => ?_)
    unfold q_X5_answer
    rw [ec, v2 e rfl]
    refine ⟨i80, jn1_two (p := vl p (srch p) j e = 0) (fun K k1 k0 => ⟨k1, k0⟩) (fun z => ⟨nu_in (by omega) (by decide), bz1, ?_⟩) (fun z => ⟨nu_in (by omega) (by decide), bz0, ?_⟩)⟩
    all_goals
      rintro h13 e13 w rfl
      rw [nI_add]
      rw [nI_clamp (show j < 2 ^ 31 by omega)] at e13
      refine ⟨⟨j + 1, rfl, by omega, fun k k1 k2 k3 k4 => by rw [e13, hp_at, if_neg k4, f2 k k1 k3]; exact fr' k k1 k2 k3 k4, ak.fs (by rw [e13, hp_at, if_neg (by decide)]; exact f2 21 (by decide) (by decide)), fun t ht => ?_⟩, by rw [nt_nI (by omega), nt_nI (by omega)]; omega⟩
      rw [e13, hp_at, if_pos rfl]
      unfold upd
      by_cases y : t = j
    · rw [if_pos y, y]; exact ⟨fun _ => z, fun _ => by decide⟩
    · rw [if_neg y, f2 54 (by decide) (by decide)]; exact hw t (by omega)
    · rw [if_pos y, y]; exact ⟨fun q => absurd rfl q, fun q => absurd q z⟩
    · rw [if_neg y, f2 54 (by decide) (by decide)]; exact hw t (by omega)
theorem s_fromTo {p b : hp_H} {e e2 : Nat} {fr : Int32} {Q : Int32 → hp_H → Prop} (bm : BM p b) (he : e < nt (p 0 15)) (h17 : p 17 e = 0) (he2 : e2 < nt (p 0 15)) (h172 : p 17 e2 = 0) (zf : hp_bz fr) (hQ : ∀ r b', FRb b b' → LST (fun s => Wz p e2 s ∧ ¬ vl p (srch p) s e = 0 ∧ LD p (srch p) (Wz p e2) fr s) (gN (srch p)) r → Q r b') : q_X3_breakerOfFromTo b (nI e) (nI e2) fr Q := by
  have br := bm.1
  obtain ⟨v, eq, n4, e35, -⟩ := br
  have E8 := v.2.2.2.1.1.2
  have i80 : vp_in (nI e) 80 := nu_in (by omega) (by decide)
  have i80' : vp_in (nI e2) 80 := nu_in (by omega) (by decide)
  have ec : (nI e).toNatClampNeg = e := nI_clamp (by omega)
  have ec2 : (nI e2).toNatClampNeg = e2 := nI_clamp (by omega)
  have no : NO p (fun x => x = e ∨ x = e2) := fun x hx => by
    rcases hx with hx | hx <;> rw [hx]
    · exact ⟨he, h17⟩
    · exact ⟨he2, h172⟩
  unfold q_X3_breakerOfFromTo
  refine s_ask v eq he (fun b0 f0 k0 => s_askToo v (EQ.fs (fun k hk => f0 k (by omega)) eq) k0 (fun x hx => by rw [hx]; exact he) he2 (fun b1 f1 k1 => ?_))
  refine hp_lp1h_ind (fun x h => ∃ j, x = nI j ∧ j ≤ gN (srch p) ∧ (∀ k, k ≠ 16 → k ≠ 21 → k ≠ 52 → k ≠ 54 → k ≠ 55 → h k = b k) ∧ AK p h (fun x => x = e ∨ x = e2) ∧ (∀ t, t < j → (¬ h 54 t = 0 ↔ vl p (srch p) t e2 = 0)) ∧ ∀ t, t < j → (¬ h 55 t = 0 ↔ vl p (srch p) t e2 = 0 ∧ ¬ vl p (srch p) t e = 0)) (fun x h => 400 - nt x) ?_ ⟨0, rfl, by omega, fun k _ k2 _ _ _ => (f1 k k2).trans (f0 k k2), k1, fun t ht => by omega, fun t ht => by omega⟩
  rintro x h ⟨j, rfl, hj, fr', ak, hw, hs⟩
  have e35' : h 35 2 = nI (gN (srch p)) := by rw [fr' 35 (by decide) (by decide) (by decide) (by decide) (by decide)]; exact e35
  have bmh : BM p h := bm.fr (fun k k1 k2 k3 => fr' k k2 k3 (by omega) (by omega) (by omega))
  rw [e35', nI_leI (by omega) (by omega)]
  refine ⟨fun c => ?_, fun c => ?_⟩
  · refine s_tie (W := Wz p e2) bmh (fun s hs => (hw s (by omega)).trans ⟨fun q => ⟨hs, q⟩, fun q => q.2⟩) zf (fun h6 f6 r6 => ?_)
    refine s_firstOfBoth (N := gN (srch p)) (by rw [f6 35 (by decide) (by decide)]; exact e35') n4 (fun r hr => hQ r h6 (fun k k1 k2 k3 k4 => by rw [f6 k (by omega) (by omega)]; exact fr' k k1 k2 k3 (by omega) (by omega)) (hr.cg (fun s hs' => ?_)))
    rw [f6 55 (by decide) (by decide)]
    have q := hs s (by omega)
    refine ⟨fun z => ?_, fun z => ?_⟩
    · have q1 := q.mp z.1
      exact ⟨⟨hs', q1.1⟩, q1.2, ((r6 s hs' ⟨hs', q1.1⟩).2).mp z.2⟩
    · exact ⟨q.mpr ⟨z.1.2, z.2.1⟩, ((r6 s hs' z.1).2).mpr z.2.2⟩
  · refine s_lookAt bmh.1 ak no (by omega) (fun b2 f2 v2 => ?_)
    unfold q_X5_answer
    rw [ec2, ec, v2 e2 (Or.inr rfl), nI_clamp (show j < 2 ^ 31 by omega)]
    have ij : vp_in (nI j) 400 := nu_in (by omega) (by decide)
    refine ⟨i80', ?_⟩
    have fin : ∀ h14 x, (∀ k, k ≠ 54 → h14 k = b2 k) → (∀ t, h14 54 t = if t = j then x else b2 54 t) → (¬ x = 0 ↔ vl p (srch p) j e2 = 0) → ∀ x', (¬ x' = 0 ↔ vl p (srch p) j e2 = 0 ∧ ¬ vl p (srch p) j e = 0) → hp_bz x' → vp_in (nI j) 400 ∧ hp_bz x' ∧ ∀ h21 : hp_H, h21 = hp_up h14 55 j x' → ∀ v22 : Int32, v22 = nI j + nI 1 → (∃ j, v22 = nI j ∧ j ≤ gN (srch p) ∧ (∀ k, k ≠ 16 → k ≠ 21 → k ≠ 52 → k ≠ 54 → k ≠ 55 → h21 k = b k) ∧ AK p h21 (fun x => x = e ∨ x = e2) ∧ (∀ t, t < j → (¬ h21 54 t = 0 ↔ vl p (srch p) t e2 = 0)) ∧ ∀ t, t < j → (¬ h21 55 t = 0 ↔ vl p (srch p) t e2 = 0 ∧ ¬ vl p (srch p) t e = 0)) ∧ 400 - nt v22 < 400 - nt (nI j) := by
      intro h14 x f14 x54 hx x' hx' zx'
      refine ⟨ij, zx', ?_⟩
      rintro h21 e21 w rfl
      rw [nI_add]
      have y55 : ∀ t, h21 55 t = if t = j then x' else h14 55 t := by intro t; rw [e21]; simp [hp_at, upd]
      have o21 : ∀ k, k ≠ 55 → h21 k = h14 k := by intro k hk; rw [e21, hp_at, if_neg hk]
      refine ⟨⟨j + 1, rfl, by omega, fun k k1 k2 k3 k4 k5 => by rw [o21 k k5, f14 k k4, f2 k k1 k3]; exact fr' k k1 k2 k3 k4 k5, ak.fs (by rw [o21 21 (by decide), f14 21 (by decide)]; exact f2 21 (by decide) (by decide)), fun t ht => ?_, fun t ht => ?_⟩, by rw [nt_nI (by omega), nt_nI (by omega)]; omega⟩
      · rw [o21 54 (by decide), x54]
        by_cases y : t = j
        · rw [if_pos y, y]; exact hx
        · rw [if_neg y, f2 54 (by decide) (by decide)]; exact hw t (by omega)
      · rw [y55]
        by_cases y : t = j
        · rw [if_pos y, y]; exact hx'
        · rw [if_neg y, f14 55 (by decide), f2 55 (by decide) (by decide)]; exact hs t (by omega)
    refine jn1_two (p := vl p (srch p) j e2 = 0) (fun K k1 k0 => ⟨k1, k0⟩) (fun z => ⟨ij, bz1, ?_⟩) (fun z => ⟨ij, bz0, ?_⟩)
    · intro h14 e14
      have f14 : ∀ k, k ≠ 54 → h14 k = b2 k := by intro k hk; rw [e14, hp_at, if_neg hk]
      have x54 : ∀ t, h14 54 t = if t = j then nI 1 else b2 54 t := by intro t; rw [e14]; simp [hp_at, upd]
      have hx : (¬ (nI 1 : Int32) = 0 ↔ vl p (srch p) j e2 = 0) := ⟨fun _ => z, fun _ => by decide⟩
      have fin' := fin h14 (nI 1) f14 x54 hx
      refine ⟨ij, ?_⟩
      rw [x54, if_pos rfl]
      refine ⟨fun x' => (x' = nI 1 ∧ ¬ vl p (srch p) j e = 0) ∨ (x' = nI 0 ∧ vl p (srch p) j e = 0), ⟨vl p (srch p) j e = 0, br1 ⟨i80, ?_⟩, fun q => Or.inr ⟨rfl, q⟩⟩, ?_⟩
      · rw [f14 16 (by decide), v2 e (Or.inl rfl)]
        exact ⟨fun q => q, fun q => Or.inl ⟨rfl, q⟩⟩
      · rintro x' (⟨rfl, q⟩ | ⟨rfl, q⟩)
        · exact fin' (nI 1) ⟨fun _ => ⟨z, q⟩, fun _ => by decide⟩ bz1
        · exact fin' (nI 0) ⟨fun w => absurd rfl w, fun w => absurd q w.2⟩ bz0
    · intro h14 e14
      have f14 : ∀ k, k ≠ 54 → h14 k = b2 k := by intro k hk; rw [e14, hp_at, if_neg hk]
      have x54 : ∀ t, h14 54 t = if t = j then nI 0 else b2 54 t := by intro t; rw [e14]; simp [hp_at, upd]
      have hx : (¬ (nI 0 : Int32) = 0 ↔ vl p (srch p) j e2 = 0) := ⟨fun q => absurd rfl q, fun q => absurd q z⟩
      have fin' := fin h14 (nI 0) f14 x54 hx
      refine ⟨ij, ?_⟩
      rw [x54, if_pos rfl]
      refine ⟨fun x' => x' = nI 0, ⟨True, br00 trivial, fun _ => rfl⟩, ?_⟩
      rintro x' rfl
      exact fin' (nI 0) ⟨fun w => absurd rfl w, fun w => absurd w.1 z⟩ bz0
