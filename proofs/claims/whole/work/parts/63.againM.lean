/-! ===== the reference finds knots; again, fromTo ===== -/
theorem TA_tn {p m : hp_H} {W : Nat → Prop} {s r i : Nat} (mm : MM p m) (hs : s < gN (srch p)) : TA (srch p) (SC (srch p) W s) (gN (srch p)) (nI r) (nI i) ↔ TN (srch p) W s r i :=
  ⟨fun ⟨u, _, u2, u3⟩ => ⟨u, u2, u3⟩, fun ⟨u, u2, u3⟩ => ⟨u, u2.1.lt mm hs, u2, u3⟩⟩
set_option maxHeartbeats 2000000 in
theorem m_findKnots {p m : hp_H} {W : Nat → Prop} {fr : Int32} {Q : hp_H → Prop} (v : VP p) (pv : PV p m) (mm : MM p m) (hW : ∀ s, s < gN (srch p) → (¬ m 40 s = 0 ↔ W s)) (hQ : ∀ m', (∀ k, k ≠ 41 → k ≠ 42 → k ≠ 43 → k ≠ 44 → m' k = m k) → (∀ t, t < gN (srch p) → (¬ m' 43 t = 0 ↔ GD p (srch p) W fr t)) → Q m') : q_X12_findKnots m fr Q := by
  have mm0 := mm
  obtain ⟨n4, e35, fs, f31, f32⟩ := mm
  unfold q_X12_findKnots
  refine hp_lp1h_ind (fun x h => ∃ j, x = nI j ∧ j ≤ gN (srch p) ∧ (∀ k, k ≠ 41 → k ≠ 42 → k ≠ 43 → k ≠ 44 → h k = m k) ∧ ∀ t, t < j → h 43 t = nI 0 ∧ h 44 t = nI 0) (fun x h => 400 - nt x) ?_ ⟨0, rfl, by omega, fun _ _ _ _ _ => rfl, fun t ht => by omega⟩
  rintro x h ⟨j, rfl, hj, fr0, hz⟩
  have e35' : h 0 35 = nI (gN (srch p)) := by rw [fr0 0 (by decide) (by decide) (by decide) (by decide)]; exact e35
  rw [e35', nI_leI (by omega) (by omega), nI_clamp (show j < 2 ^ 31 by omega)]
  refine ⟨fun c => ?_, fun c => ⟨nu_in (by omega) (by decide), ?_⟩⟩
  case refine_2 =>
    rintro h55 rfl
    refine ⟨nu_in (by omega) (by decide), ?_⟩
    rintro h56 e56 w rfl
    rw [nI_add]
    refine ⟨⟨j + 1, rfl, by omega, fun k k1 k2 k3 k4 => by rw [e56]; simp [hp_at, k3, k4]; exact fr0 k k1 k2 k3 k4, fun t ht => ?_⟩, by rw [nt_nI (by omega), nt_nI (by omega)]; omega⟩
    rw [e56]
    simp only [hp_at, Nat.reduceEqDiff, if_true, if_false, upd]
    by_cases y : t = j
    · simp [y]
    · simp [y]; exact hz t (by omega)
  refine hp_lp1h_ind (fun x h => ∃ s, x = nI s ∧ s ≤ gN (srch p) ∧ (∀ k, k ≠ 41 → k ≠ 42 → k ≠ 43 → k ≠ 44 → h k = m k) ∧ (∀ t, t < gN (srch p) → (¬ h 44 t = 0 ↔ ∃ s', s' < s ∧ W s' ∧ SC (srch p) W s' t)) ∧ ∀ t, t < gN (srch p) → (¬ h 43 t = 0 ↔ (∃ s', s' < s ∧ W s' ∧ SC (srch p) W s' t) ∧ GD p (srch p) W fr t)) (fun x h => 400 - nt x) ?_ ⟨0, rfl, by omega, fr0, fun t ht => ⟨fun q => absurd (hz t (by omega)).2 q, fun ⟨s', q, _⟩ => by omega⟩, fun t ht => ⟨fun q => absurd (hz t (by omega)).1 q, fun ⟨⟨s', q, _⟩, _⟩ => by omega⟩⟩
  clear hz fr0 e35' c hj
  clear h j
  rintro x h ⟨s, rfl, hs, fr0, sn, kn⟩
  have e35' : h 0 35 = nI (gN (srch p)) := by rw [fr0 0 (by decide) (by decide) (by decide) (by decide)]; exact e35
  rw [e35', nI_leI (by omega) (by omega), nI_clamp (show s < 2 ^ 31 by omega)]
  refine ⟨fun c => hQ h fr0 (fun t ht => (kn t ht).trans ⟨fun q => q.2, fun q => ⟨⟨t, by omega, q.1, SC.rf⟩, q⟩⟩), fun c => ⟨nu_in (by omega) (by decide), ?_⟩⟩
  have sN : s < gN (srch p) := by omega
  -- the next one
  have next : ∀ h11 : hp_H, (∀ k, k ≠ 41 → k ≠ 42 → k ≠ 43 → k ≠ 44 → h11 k = m k) → (∀ t, t < gN (srch p) → (¬ h11 44 t = 0 ↔ ∃ s', s' < s + 1 ∧ W s' ∧ SC (srch p) W s' t)) → (∀ t, t < gN (srch p) → (¬ h11 43 t = 0 ↔ (∃ s', s' < s + 1 ∧ W s' ∧ SC (srch p) W s' t) ∧ GD p (srch p) W fr t)) → ∀ v54, v54 = nI s + nI 1 → (∃ s, v54 = nI s ∧ s ≤ gN (srch p) ∧ (∀ k, k ≠ 41 → k ≠ 42 → k ≠ 43 → k ≠ 44 → h11 k = m k) ∧ (∀ t, t < gN (srch p) → (¬ h11 44 t = 0 ↔ ∃ s', s' < s ∧ W s' ∧ SC (srch p) W s' t)) ∧ ∀ t, t < gN (srch p) → (¬ h11 43 t = 0 ↔ (∃ s', s' < s ∧ W s' ∧ SC (srch p) W s' t) ∧ GD p (srch p) W fr t)) ∧ 400 - nt v54 < 400 - nt (nI s) := by
    rintro h11 q1 q2 q3 v54 rfl
    rw [nI_add]
    exact ⟨⟨s + 1, rfl, by omega, q1, q2, q3⟩, by rw [nt_nI (by omega), nt_nI (by omega)]; omega⟩
  have same : (W s → ∃ s', s' < s ∧ W s' ∧ SC (srch p) W s' s) → ∀ t, (∃ s', s' < s + 1 ∧ W s' ∧ SC (srch p) W s' t) ↔ ∃ s', s' < s ∧ W s' ∧ SC (srch p) W s' t := by
    intro q t
    refine ⟨fun ⟨s', w1, w2, w3⟩ => ?_, fun ⟨s', w1, w2⟩ => ⟨s', by omega, w2⟩⟩
    rcases (show s' < s ∨ s' = s by omega) with y | y
    · exact ⟨s', y, w2, w3⟩
    · subst y
      obtain ⟨s'', z1, z2, z3⟩ := q w2
      exact ⟨s'', z1, z2, z3.tr w3⟩
  have ws := hW s sN
  rw [fr0 40 (by decide) (by decide) (by decide) (by decide)]
  refine hp_jn0h_i ⟨fun c2 => ?_, fun c2 => ⟨nu_in (by omega) (by decide), fun c3 => ?_, fun c3 => ?_⟩⟩
  · have := same (fun q => absurd c2 (ws.mpr q))
    exact next h fr0 (fun t ht => (sn t ht).trans (this t).symm) (fun t ht => by rw [kn t ht, this t])
  case refine_3 =>
    have := same (fun _ => (sn s sN).mp c3)
    exact next h fr0 (fun t ht => (sn t ht).trans (this t).symm) (fun t ht => by rw [kn t ht, this t])
  have Ws := ws.mp c2
  have mmh : MM p h := mm0.fr (fun k hk => fr0 k (by omega) (by omega) (by omega) (by omega))
  have hWh : ∀ s, s < gN (srch p) → (¬ h 40 s = 0 ↔ W s) := by rw [fr0 40 (by decide) (by decide) (by decide) (by decide)]; exact hW
  refine m_goAhead mmh hWh sN (fun h13 f13 a13 => ?_)
  refine m_goBack (mmh.fr (fun k hk => f13 k (by omega))) (by rw [f13 40 (by decide)]; exact hWh) sN Ws (fun h14 f14 a14 => ?_)
  have ah : ∀ t, t < gN (srch p) → (¬ h14 41 t = 0 ∧ ¬ h14 42 t = 0 ↔ SC (srch p) W s t) := by
    intro t ht
    rw [f14 41 (by decide), a13 t ht, a14 t ht]
    exact ⟨fun q => ⟨q.1, q.2.2⟩, fun q => ⟨q.1, q.1.w Ws, q.2⟩⟩
  have fr14 : ∀ k, k ≠ 41 → k ≠ 42 → k ≠ 43 → k ≠ 44 → h14 k = m k := fun k k1 k2 k3 k4 => by rw [f14 k k2, f13 k k1]; exact fr0 k k1 k2 k3 k4
  have s14 : h14 44 = h 44 := by rw [f14 44 (by decide), f13 44 (by decide)]
  have k14 : h14 43 = h 43 := by rw [f14 43 (by decide), f13 43 (by decide)]
  -- both, and seen
  refine hp_lp1h_ind (fun x h' => ∃ j, x = nI j ∧ j ≤ gN (srch p) ∧ (∀ k, k ≠ 41 → k ≠ 44 → h' k = h14 k) ∧ (∀ t, t < j → (¬ h' 41 t = 0 ↔ SC (srch p) W s t)) ∧ (∀ t, j ≤ t → h' 41 t = h14 41 t ∧ h' 44 t = h 44 t) ∧ ∀ t, t < j → (¬ h' 44 t = 0 ↔ ¬ h 44 t = 0 ∨ SC (srch p) W s t)) (fun x h => 400 - nt x) ?_ ⟨0, rfl, by omega, fun _ _ _ => rfl, fun t ht => by omega, fun t _ => ⟨rfl, by rw [s14]⟩, fun t ht => by omega⟩
  rintro x h' ⟨j, rfl, hj, f', a', r', s'⟩
  have fr' : ∀ k, k ≠ 41 → k ≠ 42 → k ≠ 43 → k ≠ 44 → h' k = m k := fun k k1 k2 k3 k4 => by rw [f' k k1 k4]; exact fr14 k k1 k2 k3 k4
  have e35'' : h' 0 35 = nI (gN (srch p)) := by rw [fr' 0 (by decide) (by decide) (by decide) (by decide)]; exact e35
  rw [e35'', nI_leI (by omega) (by omega), nI_clamp (show j < 2 ^ 31 by omega)]
  refine ⟨fun c4 => ?_, fun c4 => ⟨nu_in (by omega) (by decide), ?_⟩⟩
  case refine_2 =>
    have ij : vp_in (nI j) 400 := nu_in (by omega) (by decide)
    rw [(r' j (Nat.le_refl _)).1, f' 42 (by decide) (by decide)]
    refine ⟨fun x => (x = nI 1 ∧ SC (srch p) W s j) ∨ (x = nI 0 ∧ ¬ SC (srch p) W s j), ⟨¬ SC (srch p) W s j, ⟨fun q w => ((ah j (by omega)).mpr w).1 q, fun q => ⟨ij, fun q2 w => ((ah j (by omega)).mpr w).2 q2, fun q2 => Or.inl ⟨rfl, (ah j (by omega)).mp ⟨q, q2⟩⟩⟩⟩, fun q => Or.inr ⟨rfl, q⟩⟩, fun v43 h43 => ⟨ij, by rcases h43 with ⟨z, _⟩ | ⟨z, _⟩ <;> rw [z]; exact bz1; exact bz0, ?_⟩⟩
    intro h46 e46
    have x41 : ∀ t, h46 41 t = if t = j then v43 else h' 41 t := by intro t; rw [e46]; simp [hp_at, upd]
    have o46 : ∀ k, k ≠ 41 → h46 k = h' k := by intro k hk; rw [e46, hp_at, if_neg hk]
    rw [o46 44 (by decide), (r' j (Nat.le_refl _)).2, x41, if_pos rfl]
    have v43n : ¬ v43 = 0 ↔ SC (srch p) W s j := by
      rcases h43 with ⟨z, w⟩ | ⟨z, w⟩ <;> rw [z]
      · exact ⟨fun _ => w, fun _ => by decide⟩
      · exact ⟨fun q => absurd rfl q, fun q => absurd q w⟩
    refine ⟨ij, fun x => (x = nI 1 ∧ (¬ h 44 j = 0 ∨ SC (srch p) W s j)) ∨ (x = nI 0 ∧ ¬ (¬ h 44 j = 0 ∨ SC (srch p) W s j)), ⟨¬ h 44 j = 0 ∨ SC (srch p) W s j, ⟨fun q => ⟨ij, fun q2 => Or.inr ⟨rfl, fun w => w.elim (fun y => y q) (fun y => v43n.mpr y q2)⟩, fun q2 => Or.inr (v43n.mp q2)⟩, fun q => Or.inl q⟩, fun q => Or.inl ⟨rfl, q⟩⟩, fun v49 h49 => ⟨ij, by rcases h49 with ⟨z, _⟩ | ⟨z, _⟩ <;> rw [z]; exact bz1; exact bz0, ?_⟩⟩
    rintro h52 e52 w rfl
    rw [nI_add]
    have x44 : ∀ t, h52 44 t = if t = j then v49 else h' 44 t := by intro t; rw [e52]; simp [hp_at, upd]; rw [o46 44 (by decide)]
    have y41 : ∀ t, h52 41 t = if t = j then v43 else h' 41 t := by intro t; rw [← x41, e52]; simp [hp_at]
    refine ⟨⟨j + 1, rfl, by omega, fun k k1 k2 => by rw [e52, hp_at, if_neg k2, o46 k k1]; exact f' k k1 k2, fun t ht => ?_, fun t ht => ?_, fun t ht => ?_⟩, by rw [nt_nI (by omega), nt_nI (by omega)]; omega⟩
    · rw [y41]
      by_cases y : t = j
      · rw [if_pos y, y]; exact v43n
      · rw [if_neg y]; exact a' t (by omega)
    · rw [y41, x44, if_neg (by omega), if_neg (by omega)]; exact r' t (by omega)
    · rw [x44]
      by_cases y : t = j
      · rw [if_pos y, y]
        rcases h49 with ⟨z, w⟩ | ⟨z, w⟩ <;> rw [z]
        · exact ⟨fun _ => w, fun _ => by decide⟩
        · exact ⟨fun q => absurd rfl q, fun q => absurd q w⟩
      · rw [if_neg y]; exact s' t (by omega)
  have jN : j = gN (srch p) := by omega
  subst jN
  have mm' : MM p h' := mm0.fr (fun k hk => fr' k (by omega) (by omega) (by omega) (by omega))
  have pv' : PV p h' := ⟨fun k k1 k2 => by rw [fr' k (by omega) (by omega) (by omega) (by omega)]; exact pv.1 k k1 k2, by rw [fr' 0 (by decide) (by decide) (by decide) (by decide)]; exact pv.2⟩
  have hmE : (∃ u k, u < gN (srch p) ∧ SC (srch p) W s u ∧ nt (srch p 31 u) ≤ k ∧ k < nt (srch p 31 (u + 1)) ∧ ¬ srch p 33 k = -1 ∧ SC (srch p) W s (nt (srch p 32 k))) ↔ HM (srch p) W s :=
    ⟨fun ⟨u, k, _, q⟩ => ⟨u, k, q⟩, fun ⟨u, k, q⟩ => ⟨u, k, q.1.1.lt mm0 sN, q⟩⟩
  have gd : ∀ t, SC (srch p) W s t → (GD p (srch p) W fr t ↔ GD p (srch p) W fr s) := fun t c => ⟨fun q => GD_sc c.sy q, fun q => GD_sc c q⟩
  -- is it one
  have fin : ∀ v22 : Int32, (v22 = nI 1 ∧ GD p (srch p) W fr s) ∨ (v22 = nI 0 ∧ ¬ GD p (srch p) W fr s) → hp_lp1h (fun v29 h30 B28 => ((h30 0 35) ≤ v29 → ∀ v54, v54 = nI s + nI 1 → (∃ s, v54 = nI s ∧ s ≤ gN (srch p) ∧ (∀ k, k ≠ 41 → k ≠ 42 → k ≠ 43 → k ≠ 44 → h30 k = m k) ∧ (∀ t, t < gN (srch p) → (¬ h30 44 t = 0 ↔ ∃ s', s' < s ∧ W s' ∧ SC (srch p) W s' t)) ∧ ∀ t, t < gN (srch p) → (¬ h30 43 t = 0 ↔ (∃ s', s' < s ∧ W s' ∧ SC (srch p) W s' t) ∧ GD p (srch p) W fr t)) ∧ 400 - nt v54 < 400 - nt (nI s)) ∧ (¬ (h30 0 35) ≤ v29 → vp_in v29 400 ∧ hp_jn1 (fun K33 => hp_jn0 (fun K35 => ((h30 43 v29.toNatClampNeg) = 0 → vp_in v29 400 ∧ hp_jn0 (fun K37 => ((h30 41 v29.toNatClampNeg) = 0 → K37) ∧ (¬ (h30 41 v29.toNatClampNeg) = 0 → (v22 = 0 → K37) ∧ (¬ v22 = 0 → K35))) (K33 (nI 0))) ∧ (¬ (h30 43 v29.toNatClampNeg) = 0 → K35)) (K33 (nI 1))) (fun v34 => vp_in v29 400 ∧ hp_bz v34 ∧ ∀ h39 : hp_H, h39 = hp_up h30 43 v29.toNatClampNeg v34 → ∀ v40 : Int32, v40 = v29 + (nI 1) → B28 v40 h39))) (nI 0) h' := by
    intro v22 h22
    have v22n : ¬ v22 = 0 ↔ GD p (srch p) W fr s := by
      rcases h22 with ⟨z, w⟩ | ⟨z, w⟩ <;> rw [z]
      · exact ⟨fun _ => w, fun _ => by decide⟩
      · exact ⟨fun q => absurd rfl q, fun q => absurd q w⟩
    refine hp_lp1h_ind (fun x h30 => ∃ j, x = nI j ∧ j ≤ gN (srch p) ∧ (∀ k, k ≠ 43 → h30 k = h' k) ∧ (∀ t, j ≤ t → h30 43 t = h 43 t) ∧ ∀ t, t < j → (¬ h30 43 t = 0 ↔ ¬ h 43 t = 0 ∨ (SC (srch p) W s t ∧ GD p (srch p) W fr s))) (fun x h => 400 - nt x) ?_ ⟨0, rfl, by omega, fun _ _ => rfl, fun t _ => by rw [f' 43 (by decide) (by decide), k14], fun t ht => by omega⟩
    rintro x h30 ⟨j, rfl, hj, f30, r30, k30⟩
    have fr30 : ∀ k, k ≠ 41 → k ≠ 42 → k ≠ 43 → k ≠ 44 → h30 k = m k := fun k k1 k2 k3 k4 => by rw [f30 k k3]; exact fr' k k1 k2 k3 k4
    have e35'' : h30 0 35 = nI (gN (srch p)) := by rw [fr30 0 (by decide) (by decide) (by decide) (by decide)]; exact e35
    rw [e35'', nI_leI (by omega) (by omega), nI_clamp (show j < 2 ^ 31 by omega)]
    refine ⟨fun c5 => ?_, fun c5 => ⟨nu_in (by omega) (by decide), ?_⟩⟩
    · have spl : ∀ t, (∃ s', s' < s + 1 ∧ W s' ∧ SC (srch p) W s' t) ↔ (∃ s', s' < s ∧ W s' ∧ SC (srch p) W s' t) ∨ SC (srch p) W s t := by
        intro t
        constructor
        · rintro ⟨s', w1, w2, w3⟩
          rcases (show s' < s ∨ s' = s by omega) with y | y
          · exact Or.inl ⟨s', y, w2, w3⟩
          · rw [y] at w3; exact Or.inr w3
        · rintro (⟨s', w1, w2⟩ | w)
          · exact ⟨s', by omega, w2⟩
          · exact ⟨s, by omega, Ws, w⟩
      refine next h30 fr30 (fun t ht => ?_) (fun t ht => ?_)
      · rw [f30 44 (by decide), s' t ht, spl t, sn t ht]
      · rw [k30 t (by omega), spl t, kn t ht]
        constructor
        · rintro (⟨q1, q2⟩ | ⟨q1, q2⟩)
          · exact ⟨Or.inl q1, q2⟩
          · exact ⟨Or.inr q1, (gd t q1).mpr q2⟩
        · rintro ⟨q1 | q1, q2⟩
          · exact Or.inl ⟨q1, q2⟩
          · exact Or.inr ⟨q1, (gd t q1).mp q2⟩
    · have ij : vp_in (nI j) 400 := nu_in (by omega) (by decide)
      rw [r30 j (Nat.le_refl _), f30 41 (by decide)]
      have aj := a' j (by omega)
      refine ⟨fun x => (x = nI 1 ∧ (¬ h 43 j = 0 ∨ (SC (srch p) W s j ∧ GD p (srch p) W fr s))) ∨ (x = nI 0 ∧ ¬ (¬ h 43 j = 0 ∨ (SC (srch p) W s j ∧ GD p (srch p) W fr s))), ⟨¬ h 43 j = 0 ∨ (SC (srch p) W s j ∧ GD p (srch p) W fr s), ⟨fun q => ⟨ij, ¬ (SC (srch p) W s j ∧ GD p (srch p) W fr s), ⟨fun q2 w => aj.mpr w.1 q2, fun q2 => ⟨fun q3 w => v22n.mpr w.2 q3, fun q3 => Or.inr ⟨aj.mp q2, v22n.mp q3⟩⟩⟩, fun w => Or.inr ⟨rfl, fun y => y.elim (fun y => y q) w⟩⟩, fun q => Or.inl q⟩, fun q => Or.inl ⟨rfl, q⟩⟩, fun v34 h34 => ⟨ij, by rcases h34 with ⟨z, _⟩ | ⟨z, _⟩ <;> rw [z]; exact bz1; exact bz0, ?_⟩⟩
      rintro h39 e39 w rfl
      rw [nI_add]
      have x43 : ∀ t, h39 43 t = if t = j then v34 else h30 43 t := by intro t; rw [e39]; simp [hp_at, upd]
      refine ⟨⟨j + 1, rfl, by omega, fun k hk => by rw [e39, hp_at, if_neg hk]; exact f30 k hk, fun t ht => ?_, fun t ht => ?_⟩, by rw [nt_nI (by omega), nt_nI (by omega)]; omega⟩
      · rw [x43, if_neg (by omega)]; exact r30 t (by omega)
      · rw [x43]
        by_cases y : t = j
        · rw [if_pos y, y]
          rcases h34 with ⟨z, w⟩ | ⟨z, w⟩ <;> rw [z]
          · exact ⟨fun _ => w, fun _ => by decide⟩
          · exact ⟨fun q => absurd rfl q, fun q => absurd q w⟩
        · rw [if_neg y]; exact k30 t (by omega)
  refine m_hasMove mm' a' (fun q => ?_) (fun q => ?_)
  · refine ⟨fun x => (x = nI 1 ∧ GD p (srch p) W fr s) ∨ (x = nI 0 ∧ ¬ GD p (srch p) W fr s), ⟨¬ GD p (srch p) W fr s, br1 ⟨GD p (srch p) W fr s, ⟨fun q2 => ⟨Ws, hmE.mp q, Or.inl q2⟩, fun q2 => ?_⟩, fun w => Or.inl ⟨rfl, w⟩⟩, fun w => Or.inr ⟨rfl, w⟩⟩, fun v22 h22 => fin v22 h22⟩
    refine m_isFair v pv' mm' a' (fun q3 => br1 ⟨Ws, hmE.mp q, Or.inr (fun r i hr hi => (TA_tn mm0 sN).mp (q3 r i hr hi))⟩) (fun q3 => br00 (fun w => ?_))
    rcases w.2.2 with y | y
    · exact q2 y
    · exact q3 (fun r i hr hi => (TA_tn mm0 sN).mpr (y r i hr hi))
  · refine ⟨fun x => (x = nI 1 ∧ GD p (srch p) W fr s) ∨ (x = nI 0 ∧ ¬ GD p (srch p) W fr s), ⟨¬ GD p (srch p) W fr s, br00 (fun w => q (hmE.mpr w.2.1)), fun w => Or.inr ⟨rfl, w⟩⟩, fun v22 h22 => fin v22 h22⟩
theorem m_takeWhereNot {p b m : hp_H} {q e : Nat} {Q : hp_H → Prop} (t : T0 b m) (sr : SRu p q b m) (he : e < nt (p 0 15)) (hQ : ∀ m', (∀ k, k ≠ 37 → k ≠ 40 → m' k = m k) → (∀ s, s < gN (srch p) → (¬ m' 40 s = 0 ↔ Wz p e s)) → Q m') : q_X12_takeWhereNot m (nI e) Q := by
  obtain ⟨n4, e35, fs, f31, f32⟩ := sr.mm
  have E8 := sr.1.1.2.2.2.1.1.2
  have i80 : vp_in (nI e) 80 := nu_in (by omega) (by decide)
  unfold q_X12_takeWhereNot
  refine hp_lp1h_ind (fun x h => ∃ j, x = nI j ∧ j ≤ gN (srch p) ∧ (∀ k, k ≠ 37 → k ≠ 40 → h k = m k) ∧ ∀ t, t < j → (¬ h 40 t = 0 ↔ vl p (srch p) t e = 0)) (fun x h => 400 - nt x) ?_ ⟨0, rfl, by omega, fun _ _ _ => rfl, fun t ht => by omega⟩
  rintro x h ⟨j, rfl, hj, fr, hw⟩
  have e35' : h 0 35 = nI (gN (srch p)) := by rw [fr 0 (by decide) (by decide)]; exact e35
  rw [e35', nI_leI (by omega) (by omega)]
  refine ⟨fun c => hQ h fr (fun s hs => (hw s (by omega)).trans ⟨fun q => ⟨hs, q⟩, fun q => q.2⟩), fun c => ?_⟩
  refine m_rk (sr.mfr t.2.2.2.2 FRb.rf (fun k hk => fr k (by omega) (by omega))) (by omega) (fun m1 f1 v1 => ⟨i80, ?_⟩)
  rw [nI_clamp (show e < 2 ^ 31 by omega), v1 e he, nI_clamp (show j < 2 ^ 31 by omega)]
  refine jn1_two (p := vl p (srch p) j e = 0) (fun K k1 k0 => ⟨k1, k0⟩) (fun z => ⟨nu_in (by omega) (by decide), bz1, ?_⟩) (fun z => ⟨nu_in (by omega) (by decide), bz0, ?_⟩)
  all_goals
    rintro h9 e9 w rfl
    rw [nI_add]
    refine ⟨⟨j + 1, rfl, by omega, fun k k1 k2 => by rw [e9, hp_at, if_neg k2, f1 k k1]; exact fr k k1 k2, fun t ht => ?_⟩, by rw [nt_nI (by omega), nt_nI (by omega)]; omega⟩
    rw [e9, hp_at, if_pos rfl]
    unfold upd
    by_cases y : t = j
  · rw [if_pos y, y]; exact ⟨fun _ => z, fun _ => by decide⟩
  · rw [if_neg y, f1 40 (by decide)]; exact hw t (by omega)
  · rw [if_pos y, y]; exact ⟨fun q => absurd rfl q, fun q => absurd q z⟩
  · rw [if_neg y, f1 40 (by decide)]; exact hw t (by omega)
theorem m_again {p b m : hp_H} {q e : Nat} {fr x : Int32} {Q : Int32 → hp_H → Prop} (t : T0 b m) (sr : SRu p q b m) (u2 : Um m) (he : e < nt (m 0 15)) (h17 : m 17 e = 0) (hf : fr = 0 ∨ m 0 30 = 0) (hl : LST (GD p (srch p) (Wz p e) fr) (gN (srch p)) x) (hQ : ∀ m', FRm m m' → Q x m') : q_X12_again m (nI e) fr Q := by
  obtain ⟨⟨n1, n2, n3⟩, -, -, -, -, -⟩ := t.n
  obtain ⟨p15, p17⟩ := sr.1.2.1.e
  have he' : e < nt (p 0 15) := by rw [← p15]; exact he
  have i80 : vp_in (nI e) 80 := nu_in (by omega) (by decide)
  have n4 := sr.n.1
  unfold q_X12_again
  refine m_ex n2 (by omega) (fun _ => br1 ⟨i80, ?_⟩) (fun y => absurd ⟨e, he, rfl⟩ y)
  rw [nI_clamp (show e < 2 ^ 31 by omega)]
  refine ⟨fun _ => m_us u2 (br1 ?_), fun y => absurd h17 y⟩
  refine hp_jn0_i ?_
  have go : q_X12_takeWhereNot m (nI e) (fun h9 => q_X12_findKnots h9 fr (fun h10 => hp_lp1 (fun v12 B11 => ((h10 0 35) ≤ v12 → Q (-1) h10) ∧ (¬ (h10 0 35) ≤ v12 → vp_in v12 400 ∧ ((h10 43 v12.toNatClampNeg) = 0 → ∀ v15 : Int32, v15 = v12 + (nI 1) → B11 v15) ∧ (¬ (h10 43 v12.toNatClampNeg) = 0 → Q v12 h10))) (nI 0))) := by
    refine m_takeWhereNot t sr he' (fun m1 f1 w1 => ?_)
    have frm1 : FRm m m1 := fun k hk => f1 k (by omega) (by omega)
    have sr1 := sr.mfr t.2.2.2.2 FRb.rf frm1
    refine m_findKnots (W := Wz p e) (fr := fr) sr1.1.1 sr1.1.2.1 sr1.mm w1 (fun m2 f2 k2 => ?_)
    have frm2 : FRm m m2 := frm1.tr (fun k hk => f2 k (by omega) (by omega) (by omega) (by omega))
    have e35 : m2 0 35 = nI (gN (srch p)) := by rw [frm2 0 (by decide)]; exact sr.n.2.2.1
    refine hp_lp1_ind (fun v => ∃ j, v = nI j ∧ j ≤ gN (srch p) ∧ ∀ t, t < j → ¬ GD p (srch p) (Wz p e) fr t) (fun v => 400 - nt v) ?_ ⟨0, rfl, by omega, fun t ht => by omega⟩
    rintro v ⟨j, rfl, hj, hk⟩
    rw [e35, nI_leI (by omega) (by omega), nI_clamp (show j < 2 ^ 31 by omega)]
    refine ⟨fun c => ?_, fun c => ⟨nu_in (by omega) (by decide), fun c2 => ?_, fun c2 => ?_⟩⟩
    · have := hQ m2 frm2
      rw [hl.u (Or.inr ⟨fun t ht => hk t (by omega), rfl⟩)] at this; exact this
    · rintro w rfl
      rw [nI_add]
      refine ⟨⟨j + 1, rfl, by omega, fun k hk2 => ?_⟩, by rw [nt_nI (by omega), nt_nI (by omega)]; omega⟩
      rcases (show k < j ∨ k = j by omega) with y | y
      · exact hk k y
      · rw [y]; exact fun z => (k2 j (by omega)).mpr z c2
    · have := hQ m2 frm2
      rw [hl.u (Or.inl ⟨j, by omega, (k2 j (by omega)).mp c2, hk, rfl⟩)] at this; exact this
  refine ⟨fun _ => go, fun c => ⟨fun _ => go, fun c2 => ?_⟩⟩
  rcases hf with z | z
  · exact absurd z c
  · exact absurd z c2
theorem m_fromTo {p b m : hp_H} {q e e2 : Nat} {fr x : Int32} {Q : Int32 → hp_H → Prop} (t : T0 b m) (sr : SRu p q b m) (u2 : Um m) (he : e < nt (m 0 15)) (h17 : m 17 e = 0) (he2 : e2 < nt (m 0 15)) (h172 : m 17 e2 = 0) (hf : fr = 0 ∨ m 0 30 = 0) (hl : LST (fun s => Wz p e2 s ∧ ¬ vl p (srch p) s e = 0 ∧ LD p (srch p) (Wz p e2) fr s) (gN (srch p)) x) (hQ : ∀ m', FRm m m' → Q x m') : q_X12_fromTo m (nI e) (nI e2) fr Q := by
  obtain ⟨⟨n1, n2, n3⟩, -, -, -, -, -⟩ := t.n
  obtain ⟨p15, p17⟩ := sr.1.2.1.e
  have he' : e < nt (p 0 15) := by rw [← p15]; exact he
  have he2' : e2 < nt (p 0 15) := by rw [← p15]; exact he2
  have i80 : vp_in (nI e) 80 := nu_in (by omega) (by decide)
  have i80' : vp_in (nI e2) 80 := nu_in (by omega) (by decide)
  have n4 := sr.n.1
  unfold q_X12_fromTo
  refine m_ex n2 (by omega) (fun _ => br1 (m_ex n2 (by omega) (fun _ => br1 ⟨i80, ?_⟩) (fun y => absurd ⟨e2, he2, rfl⟩ y))) (fun y => absurd ⟨e, he, rfl⟩ y)
  rw [nI_clamp (show e < 2 ^ 31 by omega), nI_clamp (show e2 < 2 ^ 31 by omega)]
  refine ⟨fun _ => ⟨i80', fun _ => m_us u2 (br1 ?_), fun y => absurd h172 y⟩, fun y => absurd h17 y⟩
  refine ⟨True, ⟨fun _ => trivial, fun c => ⟨fun _ => trivial, fun c2 => ?_⟩⟩, fun _ => ?_⟩
  · rcases hf with z | z
    · exact absurd z c
    · exact absurd z c2
  refine m_takeWhereNot t sr he2' (fun m1 f1 w1 => ?_)
  have frm1 : FRm m m1 := fun k hk => f1 k (by omega) (by omega)
  have sr1 := sr.mfr t.2.2.2.2 FRb.rf frm1
  refine m_findKnots (W := Wz p e2) (fr := fr) sr1.1.1 sr1.1.2.1 sr1.mm w1 (fun m2 f2 k2 => ?_)
  have frm2 : FRm m m2 := frm1.tr (fun k hk => f2 k (by omega) (by omega) (by omega) (by omega))
  have w2 : ∀ s, s < gN (srch p) → (¬ m2 40 s = 0 ↔ Wz p e2 s) := by rw [f2 40 (by decide) (by decide) (by decide) (by decide)]; exact w1
  refine hp_lp1h_ind (fun v h => ∃ j, v = nI j ∧ j ≤ gN (srch p) ∧ (∀ k, k ≠ 37 → k ≠ 41 → h k = m2 k) ∧ ∀ t, t < j → ¬ (Wz p e2 t ∧ ¬ vl p (srch p) t e = 0 ∧ LD p (srch p) (Wz p e2) fr t)) (fun v h => 400 - nt v) ?_ ⟨0, rfl, by omega, fun _ _ _ => rfl, fun t ht => by omega⟩
  rintro v h ⟨j, rfl, hj, fr', hk⟩
  have frm : FRm m h := frm2.tr (fun k hk => fr' k (by omega) (by omega))
  have e35 : h 0 35 = nI (gN (srch p)) := by rw [frm 0 (by decide)]; exact sr.n.2.2.1
  rw [e35, nI_leI (by omega) (by omega)]
  refine ⟨fun c => ?_, fun c => ?_⟩
  · have := hQ h frm
    rw [hl.u (Or.inr ⟨fun t ht => hk t (by omega), rfl⟩)] at this; exact this
  have jN : j < gN (srch p) := by omega
  refine m_rk (sr.mfr t.2.2.2.2 FRb.rf frm) jN (fun h18 f18 v18 => ⟨nu_in (by omega) (by decide), ?_⟩)
  have fr18 : ∀ k, k ≠ 37 → k ≠ 41 → h18 k = m2 k := fun k k1 k3 => by rw [f18 k k1]; exact fr' k k1 k3
  rw [nI_clamp (show j < 2 ^ 31 by omega), fr18 40 (by decide) (by decide), v18 e he']
  have step : ∀ h21 : hp_H, (∀ k, k ≠ 37 → k ≠ 41 → h21 k = m2 k) → ¬ (Wz p e2 j ∧ ¬ vl p (srch p) j e = 0 ∧ LD p (srch p) (Wz p e2) fr j) → ∀ v31, v31 = nI j + nI 1 → (∃ j, v31 = nI j ∧ j ≤ gN (srch p) ∧ (∀ k, k ≠ 37 → k ≠ 41 → h21 k = m2 k) ∧ ∀ t, t < j → ¬ (Wz p e2 t ∧ ¬ vl p (srch p) t e = 0 ∧ LD p (srch p) (Wz p e2) fr t)) ∧ 400 - nt v31 < 400 - nt (nI j) := by
    rintro h21 f21 q v31 rfl
    rw [nI_add]
    refine ⟨⟨j + 1, rfl, by omega, f21, fun k hk2 => ?_⟩, by rw [nt_nI (by omega), nt_nI (by omega)]; omega⟩
    rcases (show k < j ∨ k = j by omega) with y | y
    · exact hk k y
    · rw [y]; exact q
  refine hp_jn0h_i ⟨fun c2 => step h18 fr18 (fun z => (w2 j jN).mpr z.1 c2), fun c2 => ⟨i80, fun c3 => step h18 fr18 (fun z => z.2.1 c3), fun c3 => ?_⟩⟩
  have Wj := (w2 j jN).mp c2
  have frm18 : FRm m h18 := frm2.tr (fun k hk => fr18 k (by omega) (by omega))
  refine m_goAhead (W := Wz p e2) (sr.mfr t.2.2.2.2 FRb.rf frm18).mm (by rw [fr18 40 (by decide) (by decide)]; exact w2) jN (fun h23 f23 a23 => ?_)
  have fr23 : ∀ k, k ≠ 37 → k ≠ 41 → h23 k = m2 k := fun k k1 k3 => by rw [f23 k k3]; exact fr18 k k1 k3
  have frm23 : FRm m h23 := frm2.tr (fun k hk => fr23 k (by omega) (by omega))
  have e35'' : h23 0 35 = nI (gN (srch p)) := by rw [frm23 0 (by decide)]; exact sr.n.2.2.1
  refine hp_lp1_ind (fun v => ∃ a, v = nI a ∧ a ≤ gN (srch p) ∧ ∀ t, t < a → ¬ (RE (srch p) (Wz p e2) j t ∧ GD p (srch p) (Wz p e2) fr t)) (fun v => 400 - nt v) ?_ ⟨0, rfl, by omega, fun t ht => by omega⟩
  rintro v ⟨a, rfl, ha, hk3⟩
  rw [e35'', nI_leI (by omega) (by omega), nI_clamp (show a < 2 ^ 31 by omega), fr23 43 (by decide) (by decide)]
  have ia : ¬ gN (srch p) ≤ a → vp_in (nI a) 400 := fun _ => nu_in (by omega) (by decide)
  refine ⟨fun c4 => step h23 fr23 (fun z => ?_), fun c4 => ⟨ia c4, ¬ (RE (srch p) (Wz p e2) j a ∧ GD p (srch p) (Wz p e2) fr a), ⟨fun c5 z => (a23 a (by omega)).mpr z.1 c5, fun c5 => ⟨ia c4, fun c6 z => (k2 a (by omega)).mpr z.2 c6, fun c6 => ?_⟩⟩, fun z => ?_⟩⟩
  · obtain ⟨t', r1, r2⟩ := z.2.2
    exact hk3 t' (by have := r1.lt sr.mm jN; omega) ⟨r1, r2⟩
  · have := hQ h23 frm23
    rw [hl.u (Or.inl ⟨j, jN, ⟨Wj, c3, a, (a23 a (by omega)).mp c5, (k2 a (by omega)).mp c6⟩, hk, rfl⟩)] at this; exact this
  · rintro w rfl
    rw [nI_add]
    refine ⟨⟨a + 1, rfl, by omega, fun k hk4 => ?_⟩, by rw [nt_nI (by omega), nt_nI (by omega)]; omega⟩
    rcases (show k < a ∨ k = a by omega) with y | y
    · exact hk3 k y
    · rw [y]; exact z
theorem t_again {b m : hp_H} (h : R b m) (a1 a2 : Int32) (zf : hp_bz a2) : q_X11_again b a1 a2 (fun r b' => q_X12_again m a1 a2 (fun r' m' => r = r' ∧ R b' m')) := by
  have t := h.1
  obtain ⟨⟨n1, n2, n3⟩, -, -, -, -, -⟩ := t.n
  have e19 : b 1 9 = m 0 30 := t.2.1.2.1.2.2.2.2.2.1
  unfold q_X11_again
  refine b_refuse t (fun z => ⟨fun y => absurd y (by decide), fun _ => ?_⟩) (fun e he e1 z => ⟨fun y => absurd y (by decide), fun _ => ?_⟩) (fun e he e1 z => br00 ?_)
  · unfold q_X12_again
    exact m_ex n2 (by omega) (fun y => absurd y z) (fun _ => br00 ⟨rfl, h⟩)
  · unfold q_X12_again
    refine m_ex n2 (by omega) (fun _ => br1 ?_) (fun y => absurd ⟨e, he, e1⟩ y)
    rw [e1, nI_clamp (show e < 2 ^ 31 by omega)]
    exact ⟨nu_in (by omega) (by decide), fun y => absurd y z, fun _ => ⟨rfl, h⟩⟩
  subst e1
  have i80 : vp_in (nI e) 80 := nu_in (by omega) (by decide)
  rcases h.c with ⟨n1, n2'⟩ | ⟨u1, u2, p, q, sr⟩
  · unfold q_X12_again
    refine b_nus n1 (br00 (m_ex n2 (by omega) (fun _ => br1 ⟨i80, ?_⟩) (fun y => absurd ⟨e, he, rfl⟩ y)))
    rw [nI_clamp (show e < 2 ^ 31 by omega)]
    exact ⟨fun _ => m_nus n2' (br00 ⟨rfl, h⟩), fun y => absurd z y⟩
  obtain ⟨p15, p17⟩ := sr.1.2.1.e
  refine b_us u1 (br1 ?_)
  rw [e19]
  refine ⟨a2 = 0 ∨ m 0 30 = 0, ⟨fun c => Or.inl c, fun c => ⟨fun c2 => Or.inr c2, fun c2 => ?_⟩⟩, fun hf => ?_⟩
  · unfold q_X12_again
    refine m_ex n2 (by omega) (fun _ => br1 ⟨i80, ?_⟩) (fun y => absurd ⟨e, he, rfl⟩ y)
    rw [nI_clamp (show e < 2 ^ 31 by omega)]
    exact ⟨fun _ => m_us u2 (br1 (hp_jn0_i ⟨fun y => absurd y c, fun _ => ⟨fun y => absurd y c2, fun _ => ⟨rfl, h⟩⟩⟩)), fun y => absurd z y⟩
  · exact s_again (sr.bm t) (by rw [← p15]; exact he) (by rw [← p17]; exact z) zf (fun r b' fb hl => m_again t sr u2 he z hf hl (fun m' fm => ⟨rfl, h.fr fb fm⟩))
theorem t_fromTo {b m : hp_H} (h : R b m) (a1 a2 a3 : Int32) (zf : hp_bz a3) : q_X11_fromTo b a1 a2 a3 (fun r b' => q_X12_fromTo m a1 a2 a3 (fun r' m' => r = r' ∧ R b' m')) := by
  have t := h.1
  obtain ⟨⟨n1, n2, n3⟩, -, -, -, -, e22⟩ := t.n
  have e19 : b 1 9 = m 0 30 := t.2.1.2.1.2.2.2.2.2.1
  have vx := t.1.2.2.2.1
  unfold q_X11_fromTo
  refine b_ex n1 (by omega) (fun z1 => br1 ?_) (fun z1 => br00 ?_)
  case refine_2 =>
    unfold q_X12_fromTo
    exact m_ex n2 (by omega) (fun y => absurd y z1) (fun _ => br00 ⟨rfl, h⟩)
  refine b_ex n1 (by omega) (fun z2 => br1 ?_) (fun z2 => br00 ?_)
  case refine_2 =>
    unfold q_X12_fromTo
    exact m_ex n2 (by omega) (fun _ => br1 (m_ex n2 (by omega) (fun y => absurd y z2) (fun _ => br00 ⟨rfl, h⟩))) (fun y => absurd z1 y)
  obtain ⟨e, he, rfl⟩ := z1
  obtain ⟨e2, he2, rfl⟩ := z2
  have i80 : vp_in (nI e) 80 := nu_in (by omega) (by decide)
  have i80' : vp_in (nI e2) 80 := nu_in (by omega) (by decide)
  have ec : (nI e).toNatClampNeg = e := nI_clamp (by omega)
  have ec2 : (nI e2).toNatClampNeg = e2 := nI_clamp (by omega)
  -- the reference's refusals
  have pre : ∀ {x : Int32} {b' : hp_H} {Z : Prop}, (vp_in (nI e) 80 ∧ ((m 17 e) = 0 → vp_in (nI e2) 80 ∧ ((m 17 e2) = 0 → q_X12_hasStates m (fun r7 => (r7 = 0 → x = -5 ∧ R b' m) ∧ (¬ r7 = 0 → hp_jn0 (fun K10 => (a3 = 0 → K10) ∧ (¬ a3 = 0 → ((m 0 30) = 0 → K10) ∧ (¬ (m 0 30) = 0 → x = -5 ∧ R b' m))) (q_X12_takeWhereNot m (nI e2) (fun h12 => q_X12_findKnots h12 a3 (fun h13 => hp_lp1h (fun v15 h16 B14 => ((h16 0 35) ≤ v15 → x = -1 ∧ R b' h16) ∧ (¬ (h16 0 35) ≤ v15 → q_X12_reckon h16 v15 (-1) (-1) (fun h18 => vp_in v15 400 ∧ hp_jn0h (fun K20 => ((h18 40 v15.toNatClampNeg) = 0 → K20 h18) ∧ (¬ (h18 40 v15.toNatClampNeg) = 0 → vp_in (nI e) 80 ∧ ((h18 37 e) = 0 → K20 h18) ∧ (¬ (h18 37 e) = 0 → q_X12_goAhead h18 v15 (fun h23 => hp_lp1 (fun v25 B24 => ((h23 0 35) ≤ v25 → K20 h23) ∧ (¬ (h23 0 35) ≤ v25 → vp_in v25 400 ∧ hp_jn0 (fun K28 => ((h23 41 v25.toNatClampNeg) = 0 → K28) ∧ (¬ (h23 41 v25.toNatClampNeg) = 0 → vp_in v25 400 ∧ ((h23 43 v25.toNatClampNeg) = 0 → K28) ∧ (¬ (h23 43 v25.toNatClampNeg) = 0 → x = v15 ∧ R b' h23))) (∀ v30 : Int32, v30 = v25 + (nI 1) → B24 v30))) (nI 0))))) (fun h21 => ∀ v31 : Int32, v31 = v15 + (nI 1) → B14 v31 h21)))) (nI 0) h13)))))) ∧ (¬ (m 17 e2) = 0 → x = -4 ∧ R b' m)) ∧ (¬ (m 17 e) = 0 → x = -4 ∧ R b' m)) → q_X12_fromTo m (nI e) (nI e2) a3 (fun r' m' => x = r' ∧ R b' m') := by
    intro x b' _ k
    unfold q_X12_fromTo
    refine m_ex n2 (by omega) (fun _ => br1 (m_ex n2 (by omega) (fun _ => br1 ?_) (fun y => absurd ⟨e2, he2, rfl⟩ y))) (fun y => absurd ⟨e, he, rfl⟩ y)
    rw [ec, ec2]
    exact k
  unfold q_X1_isOwned
  rw [ec, ec2, e22]
  refine ⟨i80, (vx.2 e he).2.1, fun o1 => ⟨i80', (vx.2 e2 he2).2.1, fun o2 => ?_, fun o2 => ?_⟩, fun o1 => ?_⟩
  case refine_3 => exact pre (Z := True) ⟨i80, fun y => absurd y o1, fun _ => ⟨rfl, h⟩⟩
  case refine_2 => exact pre (Z := True) ⟨i80, fun _ => ⟨i80', fun y => absurd y o2, fun _ => ⟨rfl, h⟩⟩, fun y => absurd o1 y⟩
  rcases h.c with ⟨u1, u2⟩ | ⟨u1, u2, p, q, sr⟩
  · exact b_nus u1 (br00 (pre (Z := True) ⟨i80, fun _ => ⟨i80', fun _ => m_nus u2 (br00 ⟨rfl, h⟩), fun y => absurd o2 y⟩, fun y => absurd o1 y⟩))
  obtain ⟨p15, p17⟩ := sr.1.2.1.e
  refine b_us u1 (br1 ?_)
  rw [e19]
  refine ⟨a3 = 0 ∨ m 0 30 = 0, ⟨fun c => Or.inl c, fun c => ⟨fun c2 => Or.inr c2, fun c2 => ?_⟩⟩, fun hf => ?_⟩
  · exact pre (Z := True) ⟨i80, fun _ => ⟨i80', fun _ => m_us u2 (br1 (hp_jn0_i ⟨fun y => absurd y c, fun _ => ⟨fun y => absurd y c2, fun _ => ⟨rfl, h⟩⟩⟩)), fun y => absurd o2 y⟩, fun y => absurd o1 y⟩
  · exact s_fromTo (sr.bm t) (by rw [← p15]; exact he) (by rw [← p17]; exact o1) (by rw [← p15]; exact he2) (by rw [← p17]; exact o2) zf (fun r b' fb hl => m_fromTo t sr u2 he o1 he2 o2 hf hl (fun m' fm => ⟨rfl, h.fr fb fm⟩))
