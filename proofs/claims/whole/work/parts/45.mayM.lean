/-! ===== the reference: when it may search ===== -/
theorem isn_m1 {a : Int32} {b : Nat} (h : isn a b) (hb : b < 2 ^ 31) : ¬ a = -1 := by
  intro q
  rw [h.1] at q
  exact (nu_m1 (by have := h.2; omega)).mp q
theorem isn_leL {a : Int32} {b c : Nat} (h : isn a b) (hb : b < 2 ^ 31) (hc : c < 2 ^ 31) : (nI c ≤ a) ↔ c ≤ nt a := by
  obtain ⟨n, h1, h2, h3⟩ := isn_e h
  rw [h3, h2, nI_leI hc (by omega)]
theorem isn_leR {a : Int32} {b c : Nat} (h : isn a b) (hb : b < 2 ^ 31) (hc : c < 2 ^ 31) : (a ≤ nI c) ↔ nt a ≤ c := by
  obtain ⟨n, h1, h2, h3⟩ := isn_e h
  rw [h3, h2, nI_leI (by omega) hc]
theorem isn_lt2 {a a' : Int32} {b b' : Nat} (h : isn a b) (h' : isn a' b') (hb : b < 2 ^ 31) (hb' : b' < 2 ^ 31) : (a < a') ↔ nt a < nt a' := by
  obtain ⟨n, h1, h2, h3⟩ := isn_e h
  obtain ⟨n', h1', h2', h3'⟩ := isn_e h'
  rw [h3, h2, h3', h2', nI_ltI (by omega) (by omega)]
theorem isn_eqc {a : Int32} {b c : Nat} (h : isn a b) (hb : b < 2 ^ 31) (hc : c < 2 ^ 31) : (a = nI c) ↔ nt a = c := by
  obtain ⟨n, h1, h2, h3⟩ := isn_e h
  rw [h3, h2, nI_eq (by omega) hc]
def FITs (p : hp_H) (s : Nat) : Prop := ∀ e, e < nt (p 0 15) → Rc p (rootS p s) e → nt (p 13 e) = 2 → nt (p 14 e) < nt (p 5 (nt (p 18 s)))
theorem FIT_i {p : hp_H} (v : VP p) : FIT p ↔ (¬ p 0 30 = 0 → ∀ e, e < nt (p 0 15) → nt (p 13 e) ≠ 3 ∧ nt (p 13 e) ≠ 6) ∧ ∀ s, s < nt (p 0 21) → FITs p s := by
  refine ⟨fun f => ⟨f.1, fun s hs e he hr hk => ?_⟩, fun f => ⟨f.1, fun r hr e he hc hk => ?_⟩⟩
  · exact f.2 _ (v.2.2.2.2.1.2.2.2 s hs).2.1 e he (hr.mono (fun x hx => ⟨s, hs, rfl, hx⟩)) hk
  · obtain ⟨s, h1, h2, h3⟩ := hc (fun e => ∃ s, s < nt (p 0 21) ∧ nt (p 18 s) = r ∧ Rc p (rootS p s) e) (fun x hx => by obtain ⟨s, a, b, c⟩ := hx; exact ⟨s, a, b, Rc.b c⟩) (fun x y hx d => by obtain ⟨s, a, b, c⟩ := hx; exact ⟨s, a, b, c.s d⟩)
    rw [← h2]
    exact f.2 s h1 e he h3 hk
def UM (E : Nat) (m h : hp_H) (X : Nat → Prop) : Prop := (∀ k, k ≠ 39 → h k = m k) ∧ ∀ e, e < E → (¬ h 39 e = 0 ↔ X e)
theorem UM.cg {E : Nat} {m h : hp_H} {X Y : Nat → Prop} (u : UM E m h X) (q : ∀ e, X e ↔ Y e) : UM E m h Y := ⟨u.1, fun e he => (u.2 e he).trans (q e)⟩
theorem m_use {E : Nat} {m h : hp_H} {X : Nat → Prop} {a : Int32} {Q : hp_H → Prop} (u : UM E m h X) (ha : a = -1 ∨ (isn a 79 ∧ nt a < E)) (hq : ∀ h', UM E m h' (fun e => X e ∨ (¬ a = -1 ∧ e = nt a)) → Q h') : q_X12_use h a Q := by
  unfold q_X12_use
  refine ⟨fun z => hq h (u.cg (fun e => ⟨Or.inl, fun q => q.elim id (fun y => absurd z y.1)⟩)), fun z => ?_⟩
  rcases ha with ha | ⟨h1, h2⟩
  · exact absurd ha z
  refine ⟨isn_in h1 (by decide) (by have := h1.2; omega), ?_⟩
  intro h' e'
  refine hq h' ⟨fun k hk => by rw [e', hp_at, if_neg hk]; exact u.1 k hk, fun x hx => ?_⟩
  rw [e', nt_def]
  simp only [hp_at, if_true, upd]
  by_cases y : x = nt a
  · rw [if_pos y]; exact ⟨fun _ => Or.inr ⟨z, y⟩, fun _ => by decide⟩
  · rw [if_neg y]; exact ⟨fun q => Or.inl ((u.2 x hx).mp q), fun q => q.elim (fun w => (u.2 x hx).mpr w) (fun w => absurd w.2 y)⟩
set_option maxHeartbeats 2000000 in
theorem m_isFit {p m : hp_H} {s : Nat} {Q : Int32 → hp_H → Prop} (v : VP p) (pv : PV p m) (hs : s < nt (p 0 21)) (h1 : FITs p s → ∀ m', (∀ k, k ≠ 39 → m' k = m k) → Q (nI 1) m') (h0 : ¬ FITs p s → ∀ m', (∀ k, k ≠ 39 → m' k = m k) → Q (nI 0) m') : q_X12_isFit m (nI s) Q := by
  have v' := v
  obtain ⟨vs', vr, vc, vx, vt, v30⟩ := v'
  have E8 := vx.1.2
  have s24 : s < 24 := by have := vt.1.2; omega
  have i24 : vp_in (nI s) 24 := nu_in s24 (by decide)
  obtain ⟨v1, v2, v3, v4, v5, v6, v7⟩ := vt.2.2.2 s hs
  have v22 := vt.2.1 s s24
  have n4 := v22.2
  have r3 : nt (p 18 s) < 3 := by have := v1.2; omega
  unfold q_X12_isFit
  refine hp_lp1h_ind (fun x h => ∃ j, x = nI j ∧ j ≤ nt (p 0 15) ∧ (∀ k, k ≠ 39 → h k = m k) ∧ ∀ e, e < j → h 39 e = 0) (fun x h => 80 - nt x) ?_ ⟨0, rfl, by omega, fun k _ => rfl, fun e he => by omega⟩
  rintro x h ⟨j, rfl, hj, fr, hz⟩
  have pvh : PV p h := ⟨fun k a b => by rw [fr k (by omega)]; exact pv.1 k a b, by rw [fr 0 (by decide)]; exact pv.2⟩
  have e15 : h 0 15 = nI (nt (p 0 15)) := by rw [pvh.2.2.2.2.1]; exact vx.1.1
  rw [e15, nI_leI (by omega) (by omega), nI_clamp (show j < 2 ^ 31 by omega)]
  refine ⟨fun c => ⟨i24, ?_⟩, fun c => ⟨nu_in (by omega) (by decide), ?_⟩⟩
  case refine_2 =>
    rintro h' rfl w rfl
    rw [nI_add]
    refine ⟨⟨j + 1, rfl, by omega, fun k hk => by rw [hp_at, if_neg hk]; exact fr k hk, fun i hi => ?_⟩, by rw [nt_nI (by omega), nt_nI (by omega)]; omega⟩
    simp only [hp_at, if_true, upd]
    by_cases z : i = j
    · rw [if_pos z]; rfl
    · rw [if_neg z]; exact hz i (by omega)
  have u0 : UM (nt (p 0 15)) m h (fun _ => False) := ⟨fr, fun e he => ⟨fun z => absurd (hz e (by omega)) z, False.elim⟩⟩
  rw [nI_clamp (show s < 2 ^ 31 by omega), pvh.1 21 (by decide) (by decide)]
  refine m_use u0 v5 (fun h5 u5 => ?_)
  refine hp_lp1h_ind (fun x h => ∃ j, x = nI j ∧ j ≤ nt (p 22 s) ∧ UM (nt (p 0 15)) m h (mu2 p s j)) (fun x h => 4 - nt x) ?_ ⟨0, rfl, by omega, u5.cg (fun e => ⟨fun q => q.elim False.elim Or.inl, fun q => q.elim Or.inr (fun y => by obtain ⟨i, hi, _⟩ := y; omega)⟩)⟩
  clear u5 h5 u0 hz fr pvh e15 c hj
  clear h j
  rintro x h ⟨j, rfl, hj, u⟩
  have pvh : PV p h := ⟨fun k a b => by rw [u.1 k (by omega)]; exact pv.1 k a b, by rw [u.1 0 (by decide)]; exact pv.2⟩
  have e15 : h 0 15 = nI (nt (p 0 15)) := by rw [pvh.2.2.2.2.1]; exact vx.1.1
  have e22 : h 22 s = nI (nt (p 22 s)) := by rw [pvh.1 22 (by decide) (by decide)]; exact v22.1
  rw [e22, nI_leI (by omega) (by omega), pk_mul, nI_add, nI_clamp (show 4 * s + j < 2 ^ 31 by omega), pvh.1 23 (by decide) (by decide), pvh.1 25 (by decide) (by decide)]
  refine ⟨i24, fun c1 => ?_, fun c1 => ⟨nu_in (by omega) (by decide), ?_⟩⟩
  case refine_2 =>
    have jl : j < nt (p 22 s) := by omega
    have va := v6 j jl
    have k3 := va.1.2
    refine ⟨fun a => (a = -1 ∧ nt (p 23 (4 * s + j)) = 3) ∨ (a = p 25 (4 * s + j) ∧ ¬ nt (p 23 (4 * s + j)) = 3), ?_, ?_⟩
    · rw [isn_leL va.1 (by decide) (by decide)]
      exact ⟨fun z => Or.inl ⟨rfl, by omega⟩, fun z => ⟨nu_in (by omega) (by decide), Or.inr ⟨rfl, by omega⟩⟩⟩
    · intro a ha
      have g : a = -1 ∨ (isn a 79 ∧ nt a < nt (p 0 15)) := by
        rcases ha with ⟨q, _⟩ | ⟨q, q2⟩
        · exact Or.inl q
        · rw [q]; exact Or.inr (va.2.2.2.2.1 (by omega))
      refine m_use u g (fun h32 u32 => ?_)
      rintro w rfl
      rw [nI_add]
      refine ⟨⟨j + 1, rfl, by omega, u32.cg (fun e => ?_)⟩, by rw [nt_nI (by omega), nt_nI (by omega)]; omega⟩
      constructor
      · rintro (q | ⟨q1, q2⟩)
        · rcases q with q | ⟨i, i1, i2, i3⟩
          · exact Or.inl q
          · exact Or.inr ⟨i, by omega, i2, i3⟩
        · rcases ha with ⟨y, _⟩ | ⟨y, y2⟩
          · exact absurd y q1
          · exact Or.inr ⟨j, by omega, y2, by rw [← y]; exact q2⟩
      · rintro (q | ⟨i, i1, i2, i3⟩)
        · exact Or.inl (Or.inl q)
        · rcases (show i < j ∨ i = j by omega) with z | z
          · exact Or.inl (Or.inr ⟨i, z, i2, i3⟩)
          · subst z
            rcases ha with ⟨_, y2⟩ | ⟨y, _⟩
            · exact absurd y2 i2
            · rcases g with g | g
              · rw [y] at g; exact absurd g (isn_m1 (va.2.2.2.2.1 (by omega)).1 (by decide))
              · exact Or.inr ⟨isn_m1 g.1 (by decide), by rw [y]; exact i3⟩
  rintro w rfl
  rw [e15]
  have jn : j = nt (p 22 s) := by omega
  subst jn
  refine hp_lp1h_ind (fun x h => ∃ k X, x = nI k - nI 1 ∧ k ≤ nt (p 0 15) ∧ UM (nt (p 0 15)) m h X ∧ (∀ e, X e → Rc p (rootS p s) e) ∧ (∀ x, rootS p s x → X x) ∧ (∀ x y, k ≤ x → x < nt (p 0 15) → X x → dep p x y → X y) ∧ (∀ x, k ≤ x → x < nt (p 0 15) → X x → nt (p 13 x) = 2 → nt (p 14 x) < nt (p 5 (nt (p 18 s))))) (fun x h => nt (x + nI 1)) ?_ ⟨nt (p 0 15), rootS p s, rfl, Nat.le_refl _, u, fun e he => Rc.b he, fun x hx => hx, fun x y h1 h2 => by omega, fun x h1 h2 => by omega⟩
  clear u e15 e22 pvh hj c1
  clear h
  rintro x h ⟨k, X, rfl, hk, u, s1, s2, s3, s4⟩
  have xl : ∀ x, X x → x < nt (p 0 15) := fun x hx => Rc_lt v (s1 x hx) (fun y hy => rootS_lt v hs hy)
  rw [nI_neg (by omega)]
  refine ⟨fun c => h1 (fun e he hr hk2 => s4 e (by omega) he (hr X s2 (fun x y hx d => s3 x y (by omega) (xl x hx) hx d)) hk2) h u.1, fun c => ?_⟩
  obtain ⟨k', rfl⟩ : ∃ k', k = k' + 1 := ⟨k - 1, by omega⟩
  have ek : nI (k' + 1) - nI 1 = nI k' := by rw [pk_sub (by omega), Nat.add_sub_cancel]
  have i80 : vp_in (nI k') 80 := nu_in (by omega) (by decide)
  obtain ⟨x1, x2, x3, x4, x5, x6, x7, x8, x9, x10⟩ := vx.2 k' (by omega)
  have x12 := x1.2
  have pvh : PV p h := ⟨fun k a b => by rw [u.1 k (by omega)]; exact pv.1 k a b, by rw [u.1 0 (by decide)]; exact pv.2⟩
  rw [ek, nI_clamp (show k' < 2 ^ 31 by omega)]
  refine ⟨i80, ?_⟩
  refine ⟨fun h' => ∃ X', UM (nt (p 0 15)) m h' X' ∧ (∀ e, X' e → Rc p (rootS p s) e) ∧ (∀ x, rootS p s x → X' x) ∧ (∀ x y, k' ≤ x → x < nt (p 0 15) → X' x → dep p x y → X' y) ∧ (∀ x, k' + 1 ≤ x → x < nt (p 0 15) → X' x → nt (p 13 x) = 2 → nt (p 14 x) < nt (p 5 (nt (p 18 s)))), ⟨fun z => ?_, fun z => ⟨i80, ?_⟩⟩, ?_⟩
  · refine ⟨X, u, s1, s2, fun x y hx hE hX d => ?_, s4⟩
    rcases (show x = k' ∨ k' + 1 ≤ x by omega) with y' | y'
    · subst y'; exact absurd z ((u.2 x hE).mpr hX)
    · exact s3 x y y' hE hX d
  · have Xk : X k' := (u.2 k' (by omega)).mp z
    rw [pvh.1 13 (by decide) (by decide), x1.1, nI_leI (by omega) (by decide)]
    refine ⟨fun z2 => ⟨X, u, s1, s2, fun x y hx hE hX d => ?_, s4⟩, fun z2 => ⟨i80, ?_⟩⟩
    · rcases (show x = k' ∨ k' + 1 ≤ x by omega) with y' | y'
      · subst y'; have := d.1; omega
      · exact s3 x y y' hE hX d
    have k7 : 7 ≤ nt (p 13 k') := by omega
    have y8 := x8 k7
    rw [pvh.1 14 (by decide) (by decide)]
    refine m_use u (Or.inr ⟨y8.1, by omega⟩) (fun h19 u19 => ⟨i80, ?_⟩)
    have pv19 : PV p h19 := ⟨fun k a b => by rw [u19.1 k (by omega)]; exact pv.1 k a b, by rw [u19.1 0 (by decide)]; exact pv.2⟩
    rw [pv19.1 13 (by decide) (by decide), pv19.1 15 (by decide) (by decide), x1.1, nI_leI (by decide) (by omega)]
    refine ⟨fun a => (a = -1 ∧ nt (p 13 k') = 14) ∨ (a = p 15 k' ∧ nt (p 13 k') < 14), ⟨fun y => Or.inl ⟨rfl, by omega⟩, fun y => ⟨i80, Or.inr ⟨rfl, by omega⟩⟩⟩, fun a ha => ?_⟩
    have g : a = -1 ∨ (isn a 79 ∧ nt a < nt (p 0 15)) := by
      rcases ha with ⟨q, _⟩ | ⟨q, q2⟩
      · exact Or.inl q
      · rw [q]; exact Or.inr ⟨(x9 k7 q2).1, by have := (x9 k7 q2).2; omega⟩
    refine m_use u19 g (fun h23 u23 => ⟨_, u23, ?_, fun x hx => Or.inl (Or.inl (s2 x hx)), ?_, ?_⟩)
    · rintro e ((q | ⟨q1, q2⟩) | ⟨q1, q2⟩)
      · exact s1 e q
      · exact (s1 k' Xk).s ⟨k7, Or.inl q2⟩
      · rcases ha with ⟨y, _⟩ | ⟨y, y2⟩
        · exact absurd y q1
        · exact (s1 k' Xk).s ⟨k7, Or.inr ⟨y2, by rw [← y]; exact q2⟩⟩
    · intro x y hx hE hX d
      rcases (show x = k' ∨ k' + 1 ≤ x by omega) with y' | y'
      · subst y'
        rcases d.2 with q | ⟨q1, q2⟩
        · exact Or.inl (Or.inr ⟨isn_m1 y8.1 (by decide), q⟩)
        · rcases ha with ⟨_, w⟩ | ⟨w, _⟩
          · omega
          · exact Or.inr ⟨by rw [w]; exact isn_m1 (x9 k7 q1).1 (by decide), by rw [w]; exact q2⟩
      · have hX' : X x := by
          rcases hX with (q | ⟨q1, q2⟩) | ⟨q1, q2⟩
          · exact q
          · have := y8.2; omega
          · rcases ha with ⟨w, _⟩ | ⟨w, w2⟩
            · exact absurd w q1
            · have := (x9 k7 w2).2; rw [w] at q2; omega
        exact Or.inl (Or.inl (s3 x y y' hE hX' d))
    · intro x hx hE hX
      have hX' : X x := by
        rcases hX with (q | ⟨q1, q2⟩) | ⟨q1, q2⟩
        · exact q
        · have := y8.2; omega
        · rcases ha with ⟨w, _⟩ | ⟨w, w2⟩
          · exact absurd w q1
          · have := (x9 k7 w2).2; rw [w] at q2; omega
      exact s4 x hx hE hX'
  · rintro h' ⟨X', u', t1, t2, t3, t4⟩
    have pv' : PV p h' := ⟨fun k a b => by rw [u'.1 k (by omega)]; exact pv.1 k a b, by rw [u'.1 0 (by decide)]; exact pv.2⟩
    rw [pv'.1 13 (by decide) (by decide), pv'.1 14 (by decide) (by decide), pv'.1 18 (by decide) (by decide), pv'.1 5 (by decide) (by decide), x1.1, nI_eq (by omega) (by decide)]
    refine ⟨i80, ∀ x, k' ≤ x → x < nt (p 0 15) → X' x → nt (p 13 x) = 2 → nt (p 14 x) < nt (p 5 (nt (p 18 s))), ⟨fun z => ?_, fun z => ⟨i80, fun z2 => ⟨i80, i24, isn_in v1 (by decide) r3, ?_⟩, fun z2 => ?_⟩⟩, fun t5 => ?_⟩
    · intro x hx hE hX
      rcases (show x = k' ∨ k' + 1 ≤ x by omega) with y' | y'
      · subst y'; exact absurd z ((u'.2 x hE).mpr hX)
      · exact t4 x y' hE hX
    · have Xk : X' k' := (u'.2 k' (by omega)).mp z
      have y4 := x4 z2
      have y5 := vr.2.1 _ r3
      have y42 := y4.2; have y52 := y5.2
      have e : (p 14 k' < p 5 (p 18 s).toNatClampNeg) ↔ nt (p 14 k') < nt (p 5 (nt (p 18 s))) := by
        rw [nt_def, y4.1, y5.1, nI_ltI (by omega) (by omega), nt_nI (by omega), nt_nI (by omega)]
      rw [e]
      refine ⟨fun q x hx hE hX hk2 => ?_, fun q => h0 (fun f => q (f k' (by omega) (t1 k' Xk) z2)) h' u'.1⟩
      rcases (show x = k' ∨ k' + 1 ≤ x by omega) with y' | y'
      · subst y'; exact q
      · exact t4 x y' hE hX hk2
    · intro x hx hE hX hk2
      rcases (show x = k' ∨ k' + 1 ≤ x by omega) with y' | y'
      · subst y'; exact absurd hk2 z2
      · exact t4 x y' hE hX hk2
    · rintro w rfl
      rw [nI_m1]
      exact ⟨⟨k', X', rfl, by omega, u', t1, t2, t3, t5⟩, by rw [Int32.sub_add_cancel, nI_add, nt_nI (by omega), nt_nI (by omega)]; omega⟩
theorem m_maySearch {p m : hp_H} {Q : Int32 → hp_H → Prop} (v : VP p) (pv : PV p m) (h1 : FIT p → ∀ m', (∀ k, k ≠ 39 → m' k = m k) → Q (nI 1) m') (h0 : ¬ FIT p → ∀ m', (∀ k, k ≠ 39 → m' k = m k) → Q (nI 0) m') : q_X12_maySearch m Q := by
  have v' := v
  obtain ⟨vs', vr, vc, vx, vt, v30⟩ := v'
  have E8 := vx.1.2
  have S24 := vt.1.2
  have e15 : m 0 15 = nI (nt (p 0 15)) := by rw [pv.2.2.2.2.1]; exact vx.1.1
  unfold q_X12_maySearch
  refine hp_lp1_ind (fun x => ∃ j, x = nI j ∧ j ≤ nt (p 0 15) ∧ (¬ p 0 30 = 0 → ∀ e, e < j → nt (p 13 e) ≠ 3 ∧ nt (p 13 e) ≠ 6)) (fun x => 80 - nt x) ?_ ⟨0, rfl, by omega, fun _ e he => by omega⟩
  rintro x ⟨j, rfl, hj, hk⟩
  rw [e15, nI_leI (by omega) (by omega), pv.2.2.2.2.2.2, nI_clamp (show j < 2 ^ 31 by omega), pv.1 13 (by decide) (by decide)]
  refine ⟨¬ p 0 30 = 0 → ∀ e, e < nt (p 0 15) → nt (p 13 e) ≠ 3 ∧ nt (p 13 e) ≠ 6, ⟨fun z => fun q e he => hk q e (by omega), fun z => ⟨fun z2 => fun q => absurd z2 q, fun z2 => ?_⟩⟩, fun ha => ?_⟩
  · have x1 := (vx.2 j (by omega)).1
    have x12 := x1.2
    have i80 : vp_in (nI j) 80 := nu_in (by omega) (by decide)
    rw [x1.1, nI_eq (by omega) (by decide), nI_eq (by omega) (by decide)]
    refine ⟨i80, fun z3 => h0 (fun f => (f.1 z2 j (by omega)).1 z3) m (fun k _ => rfl), fun z3 => ⟨i80, fun z4 => h0 (fun f => (f.1 z2 j (by omega)).2 z4) m (fun k _ => rfl), fun z4 => ?_⟩⟩
    rintro w rfl
    rw [nI_add]
    refine ⟨⟨j + 1, rfl, by omega, fun q e he => ?_⟩, by rw [nt_nI (by omega), nt_nI (by omega)]; omega⟩
    rcases (show e < j ∨ e = j by omega) with y | y
    · exact hk q e y
    · subst y; exact ⟨z3, z4⟩
  · refine hp_lp1h_ind (fun x h => ∃ s, x = nI s ∧ s ≤ nt (p 0 21) ∧ (∀ k, k ≠ 39 → h k = m k) ∧ ∀ t, t < s → FITs p t) (fun x h => 24 - nt x) ?_ ⟨0, rfl, by omega, fun k _ => rfl, fun t ht => by omega⟩
    rintro x h ⟨s, rfl, hs, fr, hf⟩
    have pvh : PV p h := ⟨fun k a b => by rw [fr k (by omega)]; exact pv.1 k a b, by rw [fr 0 (by decide)]; exact pv.2⟩
    have e21 : h 0 21 = nI (nt (p 0 21)) := by rw [pvh.2.2.2.2.2.1]; exact vt.1.1
    rw [e21, nI_leI (by omega) (by omega)]
    refine ⟨fun c => h1 ((FIT_i v).mpr ⟨ha, fun t ht => hf t (by omega)⟩) h fr, fun c => ?_⟩
    refine m_isFit v pvh (by omega) (fun q m' f => br1 ?_) (fun q m' f => br00 (h0 (fun y => q (((FIT_i v).mp y).2 s (by omega))) m' (fun k hk => (f k hk).trans (fr k hk))))
    rintro w rfl
    rw [nI_add]
    refine ⟨⟨s + 1, rfl, by omega, fun k hk => (f k hk).trans (fr k hk), fun t ht => ?_⟩, by rw [nt_nI (by omega), nt_nI (by omega)]; omega⟩
    rcases (show t < s ∨ t = s by omega) with y | y
    · exact hf t y
    · subst y; exact q
