/-! ===== the reference's search ===== -/
def FN (m m' : hp_H) : Prop := (∀ k, 1 ≤ k → (k < 27 ∨ 39 < k) → m' k = m k) ∧ ∀ j, j ≠ 33 → j ≠ 34 → j ≠ 35 → j ≠ 40 → (j < 46 ∨ 50 < j) → m' 0 j = m 0 j
theorem FN.tr {a b c : hp_H} (h : FN a b) (k : FN b c) : FN a c := ⟨fun x h1 h2 => (k.1 x h1 h2).trans (h.1 x h1 h2), fun j h1 h2 h3 h4 h5 => (k.2 j h1 h2 h3 h4 h5).trans (h.2 j h1 h2 h3 h4 h5)⟩
theorem FM.n {a b : hp_H} (h : FM a b) : FN a b := ⟨fun k h1 h2 => h.1 k h1 (by omega), fun j _ _ h3 h4 h5 => h.2 j h3 h4 h5⟩
theorem FN.pv {p m m' : hp_H} (h : PV p m) (f : FN m m') : PV p m' := by
  obtain ⟨a, b0, b4, b11, b15, b21, b30⟩ := h
  have g : ∀ j, j < 33 → m' 0 j = m 0 j := fun j hj => f.2 j (by omega) (by omega) (by omega) (by omega) (by omega)
  exact ⟨fun k h1 h2 => by rw [f.1 k h1 (by omega)]; exact a k h1 h2, by rw [g 0 (by decide)]; exact b0, by rw [g 4 (by decide)]; exact b4, by rw [g 11 (by decide)]; exact b11, by rw [g 15 (by decide)]; exact b15, by rw [g 21 (by decide)]; exact b21, by rw [g 30 (by decide)]; exact b30⟩
theorem AM.f0 {p g m m' : hp_H} {q : Nat} (f0 : ∀ j, 35 ≤ j → j ≤ 50 → m' 0 j = m 0 j) (f : ∀ k, 27 ≤ k → k ≤ 35 → m' k = m k) (a : AM p g q m) : AM p g q m' := by
  unfold AM RW at a ⊢
  simp only [f0 35 (by decide) (by decide), f0 40 (by decide) (by decide), f0 46 (by decide) (by decide), f0 47 (by decide) (by decide), f0 48 (by decide) (by decide), f0 49 (by decide) (by decide), f0 50 (by decide) (by decide), f 27 (by decide) (by decide), f 28 (by decide) (by decide), f 29 (by decide) (by decide), f 30 (by decide) (by decide), f 31 (by decide) (by decide), f 32 (by decide) (by decide), f 33 (by decide) (by decide), f 34 (by decide) (by decide), f 35 (by decide) (by decide)]
  exact a
theorem AM_Bs {p g m : hp_H} {q s : Nat} (a : AM p g q m) (hq : q ≤ s) : AM p (gB g s) q m := by
  obtain ⟨w, a1, a2, a3, a4, a5, a6, a7, a8⟩ := a
  unfold AM
  rw [gB_N, gB_K, gB_d, gB_0, gB_0, gB_0, gB_0, gB_0, gB_0, gB_0, gB_k (show 28 ≠ 31 by decide), gB_k (show 29 ≠ 31 by decide), gB_k (show 30 ≠ 31 by decide), gB_k (show 32 ≠ 31 by decide), gB_k (show 33 ≠ 31 by decide), gB_k (show 34 ≠ 31 by decide), gB_k (show 35 ≠ 31 by decide)]
  refine ⟨GW_B w, a1, a2, a3, a4, a5, a6, a7, fun i hi => ?_⟩
  unfold gB
  simp only [hp_at, if_true, upd]
  rw [if_neg (by omega)]; exact a8 i hi
theorem AM.mono {p g m : hp_H} {q q' : Nat} (a : AM p g q m) (h : q' ≤ q) : AM p g q' m := by
  obtain ⟨w, a1, a2, a3, a4, a5, a6, a7, a8⟩ := a
  exact ⟨w, a1, a2, a3, a4, a5, a6, a7, fun i hi => a8 i (by omega)⟩
def W27 (h : hp_H) (d : Nat → Nat) : Prop := ∀ k, k < 54 → h 27 k = nI (d k)
theorem W27_up {h h' : hp_H} {d : Nat → Nat} {k v : Nat} (w : W27 h d) (e : h' = hp_up h 27 k (nI v)) : W27 h' (va_up d k v) := by
  intro j hj
  rw [e]
  simp only [hp_at, if_true, upd]
  by_cases z : j = k
  · rw [if_pos z, z, va_e]
  · rw [if_neg z, va_n _ _ z]; exact w j hj
set_option maxHeartbeats 2000000 in
theorem m_search {p m : hp_H} {Q : Int32 → hp_H → Prop} (v : VP p) (pv : PV p m)
    (h1 : FIT p → ∀ m' q, FN m m' → AM p (srch p) q m' → (srch p 0 34 = 0 → gN (srch p) < q) → m' 0 33 = nI 1 → m' 0 34 = srch p 0 34 → Q (cif (srch p 0 34 = 0) (srch p 0 35) (-7)) m')
    (h0 : ¬ FIT p → ∀ m', (∀ k, k ≠ 39 → m' k = m k) → Q (-5) m') : q_X12_search m Q := by
  have v' := v
  obtain ⟨vs, vr, vc, vx, vt, v30⟩ := v'
  have s6 := vs.1.2
  have R3 := vr.1.2
  unfold q_X12_search
  refine m_maySearch v pv (fun ft m1 f1 => br1 ?_) (fun ft m1 f1 => br00 (h0 ft m1 f1))
  have ft1 := h1 ft
  clear h1 h0
  have fn1 : FN m m1 := ⟨fun k _ _ => f1 k (by omega), fun j _ _ _ _ _ => by rw [f1 0 (by decide)]⟩
  clear f1
  -- the row is cleared
  refine hp_lp1h_ind (fun x h => ∃ j, x = nI j ∧ j ≤ 54 ∧ FN m h ∧ ∀ i, i < j → h 27 i = nI 0) (fun x h => 54 - nt x) ?_ ⟨0, rfl, by omega, fn1, fun i hi => by omega⟩
  clear fn1 m1
  rintro x h ⟨j, rfl, hj, fn, hz⟩
  rw [nI_leI (by decide) (by omega), nI_clamp (show j < 2 ^ 31 by omega)]
  refine ⟨fun c => ?_, fun c => ⟨nu_in (by omega) (by decide), ?_⟩⟩
  case refine_2 =>
    rintro h' rfl w rfl
    rw [nI_add]
    refine ⟨⟨j + 1, rfl, by omega, fn.tr ⟨fun k h1 h2 => by rw [hp_at, if_neg (by omega)], fun j _ _ _ _ _ => by rw [hp_at, if_neg (by decide)]⟩, fun i hi => ?_⟩, by rw [nt_nI (by omega), nt_nI (by omega)]; omega⟩
    simp only [hp_at, if_true, upd]
    by_cases z : i = j
    · rw [if_pos z]
    · rw [if_neg z]; exact hz i (by omega)
  have w0 : W27 h (fun _ => 0) := fun k hk => hz k (by omega)
  -- shared variables
  refine hp_lp1h_ind (fun x h => ∃ i d, x = nI i ∧ i ≤ nt (p 0 0) ∧ FN m h ∧ W27 h d ∧ pW p (pS p i) d) (fun x h => 6 - nt x) ?_ ⟨0, fun _ => 0, rfl, by omega, fn, w0, ⟨fun k _ z => absurd z (by unfold pS; omega), fun k _ _ => rfl⟩⟩
  clear w0 hz fn c hj
  clear h j
  rintro x h ⟨i, d, rfl, hi, fn, w, pw⟩
  have pvh : PV p h := fn.pv pv
  have e00 : h 0 0 = nI (nt (p 0 0)) := by rw [pvh.2.1]; exact vs.1.1
  rw [e00, nI_leI (by omega) (by omega), nI_clamp (show i < 2 ^ 31 by omega)]
  refine ⟨fun c => ?_, fun c => ⟨nu_in (by omega) (by decide), nu_in (by omega) (by decide), ?_⟩⟩
  case refine_2 =>
    have q3 := (vs.2 i (by omega)).2.2.1
    rw [pvh.1 3 (by decide) (by decide), q3.1]
    rintro h' e' w' rfl
    rw [nI_add]
    exact ⟨⟨i + 1, _, rfl, by omega, fn.tr ⟨fun k h1 h2 => by rw [e', hp_at, if_neg (by omega)], fun j _ _ _ _ _ => by rw [e', hp_at, if_neg (by decide)]⟩, W27_up w e', pW_S pw (by omega) s6⟩, by rw [nt_nI (by omega), nt_nI (by omega)]; omega⟩
  rw [show i = nt (p 0 0) by omega] at pw
  -- roles
  refine hp_lp1h_ind (fun x h => ∃ r d, x = nI r ∧ r ≤ nt (p 0 4) ∧ FN m h ∧ W27 h d ∧ pW p (pR p r 0 0) d) (fun x h => 3 - nt x) ?_ ⟨0, d, rfl, by omega, fn, w, pW_SR pw⟩
  clear pw w fn hi e00 pvh c
  clear h d i
  rintro x h ⟨r, d, rfl, hr, fn, w, pw⟩
  have pvh : PV p h := fn.pv pv
  have e4 : h 0 4 = nI (nt (p 0 4)) := by rw [pvh.2.2.1]; exact vr.1.1
  rw [e4, nI_leI (by omega) (by omega)]
  refine ⟨fun c => ?_, fun c => ?_⟩
  case refine_2 =>
    have rr : r < nt (p 0 4) := by omega
    have m4 := (vr.2.2.1 r rr).1
    have m42 := m4.2
    have o5 := vr.2.1 r (by omega)
    have o52 := o5.2
    refine hp_lp1h_ind (fun x h => ∃ i d, x = nI i ∧ i ≤ nt (p 4 r) ∧ FN m h ∧ W27 h d ∧ pW p (pR p r i 0) d) (fun x h => 3 - nt x) ?_ ⟨0, d, rfl, by omega, fn, w, pw⟩
    clear pw w fn e4 pvh
    clear h d
    rintro x h ⟨i, d, rfl, hi, fn, w, pw⟩
    have pvh : PV p h := fn.pv pv
    have e4' : h 4 r = nI (nt (p 4 r)) := by rw [pvh.1 4 (by decide) (by decide)]; exact m4.1
    rw [nI_clamp (show r < 2 ^ 31 by omega), e4', nI_leI (by omega) (by omega)]
    refine ⟨nu_in (by omega) (by decide), fun c2 => ?_, fun c2 => ?_⟩
    · rintro w' rfl
      rw [nI_add]
      rw [show i = nt (p 4 r) by omega] at pw
      exact ⟨⟨r + 1, d, rfl, by omega, fn, w, pW_N v pw rr⟩, by rw [nt_nI (by omega), nt_nI (by omega)]; omega⟩
    have im : i < nt (p 4 r) := by omega
    refine hp_lp1h_ind (fun x h => ∃ k d, x = nI k ∧ k ≤ nt (p 5 r) ∧ FN m h ∧ W27 h d ∧ pW p (pR p r i k) d) (fun x h => 3 - nt x) ?_ ⟨0, d, rfl, by omega, fn, w, pw⟩
    clear pw w fn e4' pvh
    clear h d
    rintro x h ⟨k, d, rfl, hk, fn, w, pw⟩
    have pvh : PV p h := fn.pv pv
    have e5' : h 5 r = nI (nt (p 5 r)) := by rw [pvh.1 5 (by decide) (by decide)]; exact o5.1
    rw [e5', nI_leI (by omega) (by omega)]
    refine ⟨nu_in (by omega) (by decide), fun c3 => ?_, fun c3 => ?_⟩
    · rintro w' rfl
      rw [nI_add]
      rw [show k = nt (p 5 r) by omega] at pw
      exact ⟨⟨i + 1, d, rfl, by omega, fn, w, pW_M v pw rr im⟩, by rw [nt_nI (by omega), nt_nI (by omega)]; omega⟩
    have kk : k < nt (p 5 r) := by omega
    unfold q_X12_memberAt
    have q3 := (vr.2.2.2.2 r k (by omega) kk).2.2.1
    rw [mAt]
    simp only [pk_mul, nI_add]
    rw [nI_clamp (show 3 * r + k < 2 ^ 31 by omega), show 6 + 4 * (3 * r + i) + 1 + k = 7 + 4 * (3 * r + i) + k by omega, nI_clamp (show 7 + 4 * (3 * r + i) + k < 2 ^ 31 by omega), pvh.1 8 (by decide) (by decide), q3.1]
    refine ⟨nu_in (by omega) (by decide), nu_in (by omega) (by decide), ?_⟩
    rintro h' e' w' rfl
    exact ⟨⟨k + 1, _, rfl, by omega, fn.tr ⟨fun k h1 h2 => by rw [e', hp_at, if_neg (by omega)], fun j _ _ _ _ _ => by rw [e', hp_at, if_neg (by decide)]⟩, W27_up w e', pW_R v pw rr im kk⟩, by rw [nt_nI (by omega), nt_nI (by omega)]; omega⟩
  rw [show r = nt (p 0 4) by omega] at pw
  have we : W27 h (d0 p) := fun k hk => by rw [w k hk, pW_E v pw k hk]
  rintro h16 rfl h17 rfl h18 rfl h19 rfl h20 rfl
  refine ⟨nu_in (by decide) (by decide), ?_⟩
  rintro h21 rfl
  refine ⟨nu_in (by decide) (by decide), ?_⟩
  rintro h22 rfl
  refine ⟨nu_in (by decide) (by decide), ?_⟩
  intro h23 e23
  rw [nI_clamp (show 0 < 2 ^ 31 by decide)] at e23
  have fn23 : FN m h23 := by
    refine fn.tr ⟨fun k h1 h2 => ?_, fun j j1 j2 j3 j4 j5 => ?_⟩
    · rw [e23]; simp [hp_at, show k ≠ 0 by omega, show k ≠ 28 by omega, show k ≠ 29 by omega, show k ≠ 30 by omega]
    · rw [e23]; simp [hp_at, upd, j1, j2, j3, j4, show j ≠ 46 by omega]
  have a23 : AM p (g0 p) 0 h23 := by
    obtain ⟨n1, n2, n3, n4, n5, n6⟩ := g0_N (p := p)
    have g1 : g0 p 28 0 = -1 ∧ g0 p 29 0 = -1 ∧ g0 p 30 0 = nI 0 := by unfold g0; simp
    unfold AM
    rw [n1, n2, n3, n4, n6]
    refine ⟨GW_0 v, by rw [e23]; simp [hp_at, upd], by rw [e23]; simp [hp_at, upd], by rw [e23]; simp [hp_at, upd], fun z => absurd rfl z, fun s hs => ?_, fun s hs => ?_, fun i hi => by omega, fun i hi => by omega⟩
    · have z : s = 0 := by omega
      subst z
      intro k hk
      rw [g0_d v hk, show 54 * 0 + k = k by omega, ← we k hk, e23]
      simp [hp_at]
    · have z : s = 0 := by omega
      subst z
      rw [g1.1, g1.2.1, g1.2.2, e23]
      simp [hp_at, upd]
  have e33 : h23 0 33 = nI 1 := by rw [e23]; simp [hp_at, upd]
  have e34 : h23 0 34 = nI 0 := by rw [e23]; simp [hp_at, upd]
  clear e23 we pw w fn e4 pvh hr c
  clear h d r
  generalize hF : srch p = FIN at ft1
  unfold srch at hF
  refine hp_lp1h_ind (fun x h => ∃ s q g', x = nI s ∧ s ≤ 400 ∧ FN m h ∧ AM p g' q h ∧ s ≤ q ∧ (0 < s → s < q) ∧ g' 0 34 = 0 ∧ h 0 33 = nI 1 ∧ h 0 34 = nI 0 ∧ sr p (400 - s) s g' = FIN) (fun x h => 400 - nt x) ?_ ⟨0, 0, g0 p, rfl, by omega, fn23, a23, Nat.le_refl _, fun z => by omega, (g0_N (p := p)).2.2.2.2.1, e33, e34, hF⟩
  clear e33 e34 fn23 a23
  rintro x h ⟨s, q, g', rfl, hs, fn, ab, sq, sq', spg, e33, e34, hf⟩
  have n4 := gN_le ab.1
  have n1 := ab.1.2.1
  have e2 : h 0 35 = nI (gN g') := by rw [ab.2.1]; exact ab.1.1.1
  rw [e2, nI_leI (by omega) (by omega)]
  refine ⟨fun c => ?_, fun c => ?_⟩
  · rw [sr_0 (by omega)] at hf
    subst hf
    have := ft1 h q fn ab (fun _ => by have := sq' (by omega); omega) e33 (by rw [e34, spg]; rfl)
    rw [cif_t spg, ← ab.2.1, e2] at this
    exact this
  · rw [show 400 - s = (400 - (s + 1)) + 1 by omega, sr_s ⟨by omega, spg⟩] at hf
    refine m_goThrough v (fn.pv pv) ab spg (by omega) sq (fun y h29 f29 a29 hy => ?_)
    rcases hy with ⟨y1, rfl⟩ | ⟨y1, rfl⟩
    · rw [nI_add, nI_clamp (show s + 1 < 2 ^ 31 by omega)]
      refine br1 ⟨nu_in (by omega) (by decide), ?_⟩
      rintro h31 e31 w' rfl
      refine ⟨⟨s + 1, s + 2, _, rfl, by omega, fn.tr (f29.n.tr ⟨fun k h1 h2 => by rw [e31, hp_at, if_neg (by omega)], fun j _ _ _ _ _ => by rw [e31, hp_at, if_neg (by decide)]⟩), AM_B a29 (Nat.le_refl _) e31, by omega, fun _ => by omega, by rw [gB_0]; exact y1, ?_, ?_, hf⟩, by rw [nt_nI (by omega), nt_nI (by omega)]; omega⟩
      · rw [e31, hp_at, if_neg (by decide), f29.2 33 (by decide) (by decide) (by decide)]; exact e33
      · rw [e31, hp_at, if_neg (by decide), f29.2 34 (by decide) (by decide) (by decide)]; exact e34
    · refine br00 ?_
      intro h33 e33'
      rw [sr_0 (by rw [gB_0]; exact fun z => y1 z.2)] at hf
      have spb : ∀ G : hp_H, hp_bz (G 0 34) → ¬ G 0 34 = 0 → G 0 34 = nI 1 := fun G z1 z2 => z1.elim (fun z => absurd z z2) id
      subst hf
      have := ft1 h33 (s + 1) (fn.tr (f29.n.tr ⟨fun k h1 h2 => by rw [e33', hp_at, if_neg (by omega)], fun j _ j2 _ _ _ => by rw [e33', hp_at, if_pos rfl]; simp [upd, j2]⟩)) (AM_Bs (a29.f0 (fun j j1 j2 => by rw [e33', hp_at, if_pos rfl]; simp [upd, show j ≠ 34 by omega]) (fun k k1 k2 => by rw [e33', hp_at, if_neg (by omega)])) (Nat.le_refl _)) (fun z => absurd (by rw [gB_0] at z; exact z) y1) (by rw [e33', hp_at, if_pos rfl]; simp [upd]; rw [f29.2 33 (by decide) (by decide) (by decide)]; exact e33) (by rw [e33', hp_at, if_pos rfl, gB_0, spb _ a29.1.2.2.2.1 y1]; simp [upd])
      rw [cif_f (by rw [gB_0]; exact y1)] at this
      exact this
